/** "Shots" of the terms. */
final class ShotTerms extends Bounds {
    private static final Stories.Story BUSY = Stories::busy;

    ShotTerms(Sentences sentences, Check check) {
        super(sentences, check);
    }

    @Override
    void all() {
        in("Shots");
        numbers();
        channels();
        images();
        currentImages();
        approvalsThatFall();
        approvals();
    }

    /** One asset with an approved version of a content, and one shot that pins it in slot 0. */
    private static Marionette withShot(int frames, int content) {
        Marionette m = new Marionette();
        m.addAsset();
        m.content(content);
        m.publish(0);
        m.approve(0, 1);
        m.addShot(frames);
        m.pin(0, 0, 0, 1);
        return m;
    }

    private void names(String what, Marionette m, int... due) {
        same(what + ": frames", due.length, () -> m.shot(0, 0));
        for (int place = 0; place < due.length; place++) {
            int at = place;
            same(what + ": name at " + at, due[at], () -> m.frame(0, at));
        }
    }

    private void channelIs(String what, Marionette m, long... due) {
        row(what + ": at", place -> m.channel(0, 0, 0, place), due);
    }

    private void numbers() {
        says("Shots are numbered from 0, at most 5.", () -> {
            Marionette m = new Marionette();
            row("shot", n -> m.addShot(1 + n), 0, 1, 2, 3, 4);
            row("frames of shot", s -> m.shot(s, 0), 1, 2, 3, 4, 5);
            Stories.Story five = Stories.with(BUSY, x -> Stories.times(3, () -> x.addShot(2)));
            refused(STATE, five, x -> x.addShot(1));
            refused(INDEX, five, x -> x.shot(5, 0));
            refused(INDEX, five, x -> x.shot(-1, 0));
        });
        says("A shot has frames, in a row of at most 16;", () -> {
            Marionette m = withShot(15, 0);
            same("the sixteenth", 16, () -> m.insert(0, 15, 1));
            same("the last place", 15, () -> m.frame(0, 15));
            refused(INDEX, () -> withShot(16, 0), x -> x.frame(0, 16));
            refused(STATE, () -> withShot(16, 0), x -> x.insert(0, 0, 1));
            refused(ARGUMENT, BUSY, x -> x.addShot(17));
        });
        says("a frame has a name in its shot, a number from 0 on, which no other one there ever gets.", () -> {
            Marionette m = withShot(16, 0);
            names("at first", m, 0, 1, 2, 3, 4, 5, 6, 7, 8, 9, 10, 11, 12, 13, 14, 15);
            m.cut(0, 0, 15);
            m.insert(0, 1, 2);
            m.cut(0, 1, 2);
            m.insert(0, 0, 1);
            names("behind cuts", m, 18, 15);
            int name = 19;
            for (int i = 0; i < 40; i++) {
                m.cut(0, 1, 1);
                m.insert(0, 1, 1);
                name++;
            }
            names("behind many cuts", m, 18, name - 1);
            m.addShot(2);
            same("another shot has its own names", 1, () -> m.frame(1, 1));
        });
        says("It has the slots 0 to 3, each of which pins a version, or none;", () -> {
            Marionette m = withShot(1, 0);
            row("the value counts by the slot", slot -> {
                m.pin(0, 0, -1, 0);
                m.pin(0, slot, 0, 1);
                long image = m.image(0, 0);
                m.pin(0, slot, -1, 0);
                return image;
            }, 9, 18, 27, 36);
            refuses(INDEX, BUSY, (x, slot) -> x.pin(0, slot, 0, 1), -1, 4);
            refuses(INDEX, BUSY, (x, slot) -> x.pin(0, slot, -1, 0), -1, 4);
        });
        says("keys, at most 20: a channel of a slot has a number at a frame, one at most;", () -> {
            Marionette m = withShot(2, 0);
            row("key, less 1, at", n -> m.key(0, n % 4, n / 8, n / 4 % 2, n) - 1,
                0, 1, 2, 3, 4, 5, 6, 7, 8, 9, 10, 11, 12, 13, 14, 15);
            row("another number at", n -> m.key(0, n % 4, n / 8, n / 4 % 2, -n), 16, 16, 16, 16, 16, 16, 16, 16);
            row("up to 20, less 17, at", n -> m.key(0, n, 3, 1, 5) - 17, 0, 1, 2, 3);
            same("the last one again", 20, () -> m.key(0, 3, 3, 1, 6));
            refused(STATE, ShotTerms::twentyKeys, x -> x.key(0, 3, 3, 0, 6));
        });
        says("a colour, 0 to 2, and a size, 1 to 4, at first 0 and 1;", () -> {
            Marionette m = withShot(2, 0);
            same("colour", 0, () -> m.shot(0, 2));
            same("size", 1, () -> m.shot(0, 3));
            m.setLook(0, 2, 4);
            same("colour then", 2, () -> m.shot(0, 2));
            same("size then", 4, () -> m.shot(0, 3));
            refuses(ARGUMENT, BUSY, (x, colour) -> x.setLook(0, colour, 1), -1, 3);
            refuses(ARGUMENT, BUSY, (x, size) -> x.setLook(0, 0, size), 0, 5);
        });
        says("a bid and hours that were worked.", () -> {
            Marionette m = withShot(2, 0);
            same("bid", 0, () -> m.shot(0, 5));
            same("hours", 0, () -> m.shot(0, 6));
            m.work(0, 999, 99);
            same("bid then", 999, () -> m.shot(0, 5));
            same("hours then", 99, () -> m.shot(0, 6));
        });
    }

    /** A key in each channel of each slot at the first place of shot 0, of the numbers 1 to 16. */
    static void keyAllLines(Marionette m) {
        for (int line = 0; line < 16; line++) {
            m.key(0, line / 4, line % 4, 0, line + 1);
        }
    }

    /** A shot of two frames that has 20 keys. */
    static Marionette twentyKeys() {
        Marionette m = withShot(2, 0);
        for (int i = 0; i < 20; i++) {
            m.key(0, i % 4, i / 8, i / 4 % 2, i);
        }
        m.approveShot(0);
        return m;
    }

    private void channels() {
        says("What a channel of a slot has at a place of the row: without keys 0;", () -> {
            Marionette m = withShot(3, 0);
            channelIs("no key at all", m, 0, 0, 0);
            m.key(0, 0, 1, 0, 5);
            m.key(0, 1, 0, 0, 6);
            channelIs("keys of another channel, and of another slot", m, 0, 0, 0);
            m.key(0, 0, 0, 1, 7);
            m.dropKey(0, 0, 0, 1);
            channelIs("the only key dropped", m, 0, 0, 0);
        });
        says("ahead of the first key what that has, behind the last one what that has;", () -> {
            Marionette m = withShot(4, 0);
            m.key(0, 0, 0, 1, -9999);
            m.key(0, 0, 0, 2, 9999);
            channelIs("around two", m, -9999, -9999, 9999, 9999);
            m.dropKey(0, 0, 0, 1);
            channelIs("around one", m, 9999, 9999, 9999, 9999);
            Marionette one = withShot(1, 0);
            one.key(0, 0, 0, 0, -3);
            channelIs("a row of one", one, -3);
            Marionette sixteen = withShot(16, 0);
            sixteen.key(0, 0, 0, 15, 8);
            same("far ahead of it", 8, () -> sixteen.channel(0, 0, 0, 0));
            sixteen.key(0, 0, 0, 0, 4);
            sixteen.dropKey(0, 0, 0, 15);
            same("far behind it", 4, () -> sixteen.channel(0, 0, 0, 15));
        });
        says("otherwise, between the one at or ahead of the place and the next one behind it, what the first one has,"
            + " and the difference of both times the places from the first one, divided by the difference of the places of"
            + " both, rounded toward 0, together.", () -> {
            Marionette m = withShot(4, 0);
            m.key(0, 0, 0, 0, 0);
            m.key(0, 0, 0, 3, 2);
            channelIs("up", m, 0, 0, 1, 2);
            m.key(0, 0, 0, 3, -2);
            channelIs("down", m, 0, 0, -1, -2);
            m.key(0, 0, 0, 0, 10);
            m.key(0, 0, 0, 3, 8);
            channelIs("down, above 0", m, 10, 10, 9, 8);
            m.key(0, 0, 0, 0, -10);
            m.key(0, 0, 0, 3, -8);
            channelIs("up, below 0", m, -10, -10, -9, -8);
            m.key(0, 0, 0, 1, 100);
            channelIs("a key at the place", m, -10, 100, 46, -8);
            farKeys();
        });
    }

    private void farKeys() {
        Marionette m = withShot(16, 0);
        m.key(0, 0, 0, 0, 9999);
        m.key(0, 0, 0, 15, -9999);
        // Down by 19998 in 15 steps of 1333.2.
        channelIs("far down", m, 9999, 8666, 7333, 6000, 4667, 3333, 2000, 667, -666, -1999, -3333, -4666, -5999, -7332,
            -8665, -9999);
        m.key(0, 0, 0, 0, -9999);
        m.key(0, 0, 0, 15, 9999);
        channelIs("far up", m, -9999, -8666, -7333, -6000, -4667, -3333, -2000, -667, 666, 1999, 3333, 4666, 5999, 7332,
            8665, 9999);
    }

    /** A shot whose first slots, by a set of bits, pin a version that has a value, as least 30978 less 9999. */
    private static Marionette ofValue(int value, int slots) {
        Marionette m = withShot(1, 999);
        m.pin(0, 0, -1, 0);
        int beyond = value - 30978;
        for (int slot = 0; slot < 4; slot++) {
            if ((slots >> slot & 1) == 1) {
                m.pin(0, slot, 0, 1);
                m.key(0, slot, 3, 0, Math.floorDiv(beyond, 4));
                m.key(0, slot, 0, 0, Math.floorMod(beyond, 4));
            }
        }
        return m;
    }

    private void imageIs(long due, int value, int slots, int colour, int size) {
        Marionette m = ofValue(value, slots);
        m.setLook(0, colour, size);
        same("value " + value + " in the slots " + slots + " by the colour " + colour + " and the size " + size, due,
            () -> m.image(0, 0));
    }

    private void images() {
        says("The image of a place is, of the sum, over all slots that pin, of 1 more than the slot, times the value of its"
            + " version for its channels:", () -> {
            Marionette m = withShot(2, 0);
            m.pin(0, 1, 0, 1);
            m.pin(0, 3, 0, 1);
            m.key(0, 0, 0, 0, 1);
            m.key(0, 1, 1, 0, 10);
            m.key(0, 2, 2, 0, 100);
            m.key(0, 3, 3, 0, 1000);
            m.key(0, 3, 3, 1, 2000);
            same("three slots", (9 + 1) + 2 * (9 + 20) + 4 * (9 + 4000), () -> m.image(0, 0));
            same("the next place", (9 + 1) + 2 * (9 + 20) + 4 * (9 + 8000), () -> m.image(0, 1));
            for (int slot = 0; slot < 4; slot++) {
                m.pin(0, slot, -1, 0);
            }
            same("none that pins", 0, () -> m.image(0, 0));
            m.setLook(0, 1, 1);
            same("none, by the colour 1", 7, () -> m.image(0, 0));
            m.setLook(0, 2, 4);
            same("none, by the colour 2 and the size 4", 2, () -> m.image(0, 0));
        });
        says("with the colour 0 itself, 1 three times it and 7, 2 five times it and 11;", () -> {
            imageIs(30000, 30000, 1, 0, 1);
            imageIs(90007, 30000, 1, 1, 1);
            imageIs(150011 - 99991, 30000, 1, 2, 1);
        });
        says("divided by the size, rounded down;", () -> {
            for (int value = 30000; value < 30012; value++) {
                for (int size = 1; size <= 4; size++) {
                    imageIs(value / size, value, 1, 0, size);
                    imageIs((3 * value + 7) / size % 99991, value, 1, 1, size);
                    imageIs((5 * value + 11) / size % 99991, value, 1, 2, size);
                }
            }
        });
        says("and of that the remainder by 99991.", () -> {
            imageIs(99988, 33327, 1, 1, 1);
            imageIs(0, 33328, 1, 1, 1);
            imageIs(3, 33329, 1, 1, 1);
            imageIs(99990, 33330, 4, 0, 1);
            imageIs(2, 33331, 4, 0, 1);
            // Behind the division: twice 99991 is 199982, and 3 times 66661 is 199983.
            imageIs(99990, 66660, 3, 0, 2);
            imageIs(0, 66661, 3, 0, 2);
            imageIs((5 * 10 * 70000 + 11) / 4 % 99991, 70000, 15, 2, 4);
            imageIs((5 * 10 * 70000 + 11) % 99991, 70000, 15, 2, 1);
        });
    }

    private static Marionette rendered() {
        Marionette m = withShot(2, 4);
        m.pin(0, 2, 0, 1);
        m.key(0, 0, 0, 0, 6);
        m.key(0, 0, 0, 1, 8);
        m.addMachine(3, 0);
        m.render(0);
        m.tick(9);
        return m;
    }

    private void currentImages() {
        says("An image that is stored is current, if it was made of the same pins,", () -> {
            Marionette m = rendered();
            yes("as made", m.isCurrent(0, 0));
            m.publish(0);
            for (int slot = 0; slot < 4; slot++) {
                boolean pinned = m.pin(0, slot, 0, 2);
                no("another version in slot " + slot, m.isCurrent(0, 0));
                m.pin(0, slot, -1, 0);
                same("none in slot " + slot, pinned ? 0 : 1, () -> m.isCurrent(0, 0) ? 1 : 0);
                m.pin(0, slot, pinned ? 0 : -1, 1);
                yes("as made, slot " + slot, m.isCurrent(0, 0));
            }
            m.dropImages(0);
            no("not stored", m.isCurrent(0, 0));
        });
        says("of the same channels of all slots that pin,", () -> {
            Marionette m = rendered();
            for (int line = 0; line < 16; line++) {
                int slot = line / 4;
                int channel = line % 4;
                boolean keyed = line == 0;
                m.key(0, slot, channel, 1, 7);
                boolean due = slot % 2 == 1;
                same("another number in " + slot + " " + channel, due ? 1 : 0, () -> m.isCurrent(0, 1) ? 1 : 0);
                if (keyed) {
                    m.key(0, slot, channel, 1, 8);
                } else {
                    m.dropKey(0, slot, channel, 1);
                }
                yes("as made in " + slot + " " + channel, m.isCurrent(0, 1));
            }
        });
        says("of all slots that pin,", () -> {
            Marionette m = withShot(1, 4);
            for (int slot = 1; slot < 4; slot++) {
                m.pin(0, slot, 0, 1);
            }
            keyAllLines(m);
            m.addMachine(3, 0);
            m.render(0);
            m.tick(9);
            yes("with a number in each of all channels", m.isCurrent(0, 0));
            same("not rendered again", 0, () -> m.render(0));
            for (int line = 0; line < 16; line++) {
                m.key(0, line / 4, line % 4, 0, 0);
                no("0 in the line " + line, m.isCurrent(0, 0));
                m.key(0, line / 4, line % 4, 0, line + 1);
                yes("as made in the line " + line, m.isCurrent(0, 0));
            }
        });
        says("and by the same colour and size, as its frame has now.", () -> {
            Marionette m = rendered();
            for (int colour = 0; colour <= 2; colour++) {
                for (int size = 1; size <= 4; size++) {
                    m.setLook(0, colour, size);
                    same("colour " + colour + ", size " + size, colour == 0 && size == 1 ? 1 : 0,
                        () -> m.isCurrent(0, 0) ? 1 : 0);
                }
            }
            m.setLook(0, 0, 1);
            m.move(0, 0, 1, 1);
            yes("moved with its key", m.isCurrent(0, 1));
            m.dropKey(0, 0, 0, 1);
            no("what it has now", m.isCurrent(0, 1));
            yes("the other one", m.isCurrent(0, 0));
        });
    }

    private void falls(Stories.Act edit) {
        Marionette m = withShot(3, 4);
        m.key(0, 0, 0, 0, 6);
        m.addShot(2);
        m.pin(1, 0, 0, 1);
        m.approveShot(0);
        m.approveShot(1);
        edit.on(m);
        same("approved behind it", 0, () -> m.shot(0, 4));
        same("the other shot", 1, () -> m.shot(1, 4));
        no("it can be approved again", m.approveShot(0));
    }

    private void approvalsThatFall() {
        says("Each of these falls the approval of a shot: to pin,", () -> {
            falls(m -> m.pin(0, 3, 0, 1));
            falls(m -> {
                m.pin(0, 3, 0, 1);
                m.approveShot(0);
                m.pin(0, 3, -1, 0);
            });
        });
        says("to set or drop a key,", () -> {
            falls(m -> m.key(0, 0, 0, 1, 5));
            falls(m -> m.dropKey(0, 0, 0, 0));
        });
        says("to set colour or size,", () -> {
            falls(m -> m.setLook(0, 1, 1));
            falls(m -> m.setLook(0, 0, 2));
        });
        says("to insert, cut or move frames,", () -> {
            falls(m -> m.insert(0, 0, 1));
            falls(m -> m.insert(0, 3, 13));
            falls(m -> m.cut(0, 0, 1));
            falls(m -> m.cut(0, 1, 2));
            falls(m -> m.move(0, 0, 1, 1));
        });
        says("also if nothing is otherwise by that.", () -> {
            falls(m -> m.pin(0, 0, 0, 1));
            falls(m -> m.pin(0, 3, -1, 0));
            falls(m -> m.key(0, 0, 0, 0, 6));
            falls(m -> m.key(0, 3, 3, 2, 0));
            falls(m -> {
                m.key(0, 3, 3, 2, 0);
                m.approveShot(0);
                m.dropKey(0, 3, 3, 2);
            });
            falls(m -> m.setLook(0, 0, 1));
            falls(m -> m.cut(0, 2, 1));
            falls(m -> m.move(0, 0, 1, 0));
            falls(m -> m.move(0, 0, 3, 0));
        });
    }

    private void approvals() {
        says("A shot can be approved, if it pins something,", () -> {
            Marionette m = withShot(1, 0);
            no("one in slot 0", m.approveShot(0));
            m.pin(0, 3, 0, 1);
            m.pin(0, 0, -1, 0);
            no("one in slot 3", m.approveShot(0));
            refused(STATE, Stories.with(() -> withShot(1, 0), x -> x.pin(0, 0, -1, 0)), x -> x.approveShot(0));
            refused(STATE, Stories.with(BUSY, x -> x.addShot(1)), x -> x.approveShot(2));
        });
        says("all that it pins is approved,", () -> {
            for (int slot = 0; slot < 4; slot++) {
                int other = slot;
                Stories.Story oneNot = () -> {
                    Marionette m = withShot(1, 0);
                    m.publish(0);
                    for (int each = 0; each < 4; each++) {
                        m.pin(0, each, 0, each == other ? 2 : 1);
                    }
                    return m;
                };
                refused(STATE, oneNot, m -> m.approveShot(0));
                Marionette m = oneNot.make();
                m.approve(0, 2);
                no("all approved, slot " + other, m.approveShot(0));
            }
        });
        says("and it has no open note of the weight 2.", () -> {
            Marionette m = withShot(2, 0);
            m.addShot(1);
            m.note(0, 0, 0);
            m.note(0, 1, 1);
            m.note(1, 0, 2);
            no("lighter ones, and one of another shot", m.approveShot(0));
            Stories.Story heavy = Stories.with(() -> withShot(2, 0), x -> x.note(0, 1, 2));
            refused(STATE, heavy, x -> x.approveShot(0));
            Marionette closed = heavy.make();
            closed.close(0);
            no("closed", closed.approveShot(0));
            Marionette cut = heavy.make();
            cut.cut(0, 1, 1);
            no("cut with its frame", cut.approveShot(0));
        });
    }
}
