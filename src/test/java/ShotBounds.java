/** The promises 9 to 13, 17, and 30 to 33. */
final class ShotBounds extends Bounds {
    private static final Stories.Story EMPTY = Stories::empty;
    private static final Stories.Story BUSY = Stories::busy;
    private static final Stories.Story FIVE_SHOTS = Stories.with(BUSY, m -> Stories.times(3, () -> m.addShot(16)));
    /** Shot 0 has keys in slot 1 at all places, and 20 in all. */
    private static final Stories.Story TWENTY_KEYS = Stories.with(BUSY, m -> {
        for (int i = 0; i < 17; i++) {
            m.key(0, 1, i / 5, i % 5, 10 * i);
        }
        m.close(0);
        m.approveShot(0);
    });

    ShotBounds(Sentences sentences, Check check) {
        super(sentences, check);
    }

    @Override
    void all() {
        addShot();
        pin();
        key();
        dropKey();
        setLook();
        approveShot();
        shot();
        frame();
        channel();
        image();
    }

    /** The call asks for a shot that is there: 0 and 1, or 0 to 4. */
    private void boundsOfShots(NumberAct act) {
        bounds(INDEX, BUSY, 0, 1, act);
        bounds(INDEX, FIVE_SHOTS, 0, 4, act);
        refuses(INDEX, EMPTY, act, 0, -1);
    }

    private void addShot() {
        in("Promise 9: addShot");
        says("Adds a shot.", () -> {
            Marionette m = Stories.busy();
            m.addShot(4);
            row("of the new one", what -> m.shot(2, what), 4, 0, 0, 1, 0, 0, 0, 0);
            row("frame", place -> m.frame(2, place), 0, 1, 2, 3);
            row("stored", place -> m.stored(2, place), -1, -1, -1, -1);
            row("where", place -> m.where(2, place), 0, 0, 0, 0);
            row("no pin in slot", slot -> m.pin(2, slot, -1, 0) ? 1 : 0, 0, 0, 0, 0);
            same("the others are as they were", 5, () -> m.shot(0, 0));
        });
        says("- `frames`: 1 to 16", () -> {
            bounds(ARGUMENT, BUSY, 1, 16, (m, frames) -> m.addShot(frames));
            Marionette m = new Marionette();
            m.addShot(1);
            m.addShot(16);
            same("one", 1, () -> m.shot(0, 0));
            same("sixteen", 16, () -> m.shot(1, 0));
            same("the last name", 15, () -> m.frame(1, 15));
        });
        says("Returns its number.", () -> {
            Marionette m = new Marionette();
            row("shot", n -> m.addShot(16 - n), 0, 1, 2, 3, 4);
        });
        says("Throws `IllegalArgumentException` if frames is out of range", () -> {
            refuses(ARGUMENT, EMPTY, (m, frames) -> m.addShot(frames), 0, 17, -1, LEAST, MOST);
            refuses(ARGUMENT, FIVE_SHOTS, (m, frames) -> m.addShot(frames), 0, 17);
        });
        says("Throws `IllegalStateException` if there are 5", () -> {
            refuses(STATE, FIVE_SHOTS, (m, frames) -> m.addShot(frames), 1, 16);
            takes(Stories.with(BUSY, m -> Stories.times(2, () -> m.addShot(1))), (m, frames) -> m.addShot(frames), 1, 16);
        });
    }

    private void pin() {
        in("Promise 10: pin");
        says("Lets a slot pin a version, or none; its keys stay.", () -> {
            Marionette m = Stories.busy();
            m.pin(0, 0, -1, 0);
            same("keys without a pin", 3, () -> m.shot(0, 1));
            same("a channel without a pin", -50, () -> m.channel(0, 0, 0, 0));
            same("the image of the other slot", 3 * m.value(1, 1, 0, 0, 0, 9), () -> m.image(0, 0));
            m.pin(0, 0, 0, 1);
            same("keys with another one", 3, () -> m.shot(0, 1));
            same("the image of both", 3 * m.value(1, 1, 0, 0, 0, 9) + m.value(0, 1, -50, 0, 0, 0), () -> m.image(0, 0));
        });
        says("- `slot`: 0 to 3", () -> {
            bounds(INDEX, BUSY, 0, 3, (m, slot) -> m.pin(0, slot, 0, 1));
            bounds(INDEX, BUSY, 0, 3, (m, slot) -> m.pin(0, slot, -1, 1));
        });
        says("- `asset`: the asset; -1 for none", () -> {
            takes(BUSY, (m, asset) -> m.pin(0, 0, asset, 1), -1, 0, 1);
            refuses(INDEX, BUSY, (m, asset) -> m.pin(0, 0, asset, 1), -2, 2, 3, LEAST, MOST);
            Marionette m = Stories.busy();
            m.pin(0, 0, -1, 4);
            no("none is pinned then", m.pin(0, 0, -1, 4));
        });
        says("- `version`: the version; it does not matter for none", () -> {
            takes(BUSY, (m, version) -> m.pin(0, 0, -1, version), 0, 1, -1, 7, LEAST, MOST);
            takes(BUSY, (m, version) -> m.pin(0, 0, 0, version), 1, 4);
        });
        says("Returns whether it pinned one.", () -> {
            Marionette m = Stories.busy();
            yes("one over one", m.pin(0, 0, 1, 1));
            yes("none over one", m.pin(0, 0, -1, 0));
            no("none over none", m.pin(0, 0, -1, 0));
            no("one over none", m.pin(0, 0, 0, 1));
            yes("the same again", m.pin(0, 0, 0, 1));
            no("another slot", m.pin(0, 1, 0, 1));
        });
        says("Throws `IndexOutOfBoundsException` if there is no such shot or slot, or no such asset or version,"
            + " asset not being -1", () -> {
            boundsOfShots((m, shot) -> m.pin(shot, 0, -1, 1));
            boundsOfShots((m, shot) -> m.pin(shot, 3, 0, 1));
            refuses(INDEX, BUSY, (m, slot) -> m.pin(0, slot, 0, 1), -1, 4, LEAST, MOST);
            refuses(INDEX, BUSY, (m, version) -> m.pin(0, 0, 0, version), 0, 5, -1, LEAST, MOST);
            refused(INDEX, BUSY, m -> m.pin(0, 0, 2, 1));
        });
        says("Throws `IllegalStateException` if the version is retracted", () -> {
            refuses(STATE, BUSY, (m, slot) -> m.pin(0, slot, 1, 2), 0, 3);
            takes(BUSY, (m, slot) -> m.pin(0, slot, 1, 3), 0, 3);
            refused(STATE, Stories.with(BUSY, m -> m.retract(1, 1)), m -> m.pin(0, 2, 1, 1));
            yes("it stays pinned, and can be taken away", Stories.with(BUSY, m -> m.retract(1, 1)).make().pin(0, 2, -1, 1));
        });
    }

    private void key() {
        in("Promise 11: key");
        says("Sets a key, in place of one that is there.", () -> {
            Marionette m = Stories.busy();
            m.key(0, 0, 0, 3, 100);
            row("with another number", place -> m.channel(0, 0, 0, place), -50, 0, 50, 100, 100);
            m.key(0, 0, 0, 1, 5);
            row("with one between", place -> m.channel(0, 0, 0, place), -50, 5, 52, 100, 100);
            m.key(0, 0, 0, 1, 0);
            row("of the number 0", place -> m.channel(0, 0, 0, place), -50, 0, 50, 100, 100);
            same("four", 4, () -> m.shot(0, 1));
        });
        says("- `slot`: 0 to 3", () -> bounds(INDEX, BUSY, 0, 3, (m, slot) -> m.key(0, slot, 0, 0, 1)));
        says("- `channel`: 0 to 3", () -> bounds(INDEX, BUSY, 0, 3, (m, channel) -> m.key(0, 0, channel, 0, 1)));
        says("- `place`: 0 for the first frame of the row", () -> bounds(INDEX, BUSY, 0, 4, (m, place) -> m.key(0, 0, 0, place, 1)));
        says("- `value`: -9999 to 9999", () -> {
            bounds(ARGUMENT, BUSY, -9999, 9999, (m, value) -> m.key(0, 0, 0, 0, value));
            Marionette m = Stories.busy();
            m.key(0, 0, 0, 0, -9999);
            m.key(0, 0, 0, 3, 9999);
            row("from end to end", place -> m.channel(0, 0, 0, place), -9999, -3333, 3333, 9999, 9999);
        });
        says("Returns how many keys the shot has then.", () -> {
            Marionette m = Stories.busy();
            same("one more", 4, () -> m.key(0, 0, 0, 1, 1));
            same("in place of it", 4, () -> m.key(0, 0, 0, 1, 2));
            same("the same again", 4, () -> m.key(0, 0, 0, 1, 2));
            same("the other shot", 2, () -> m.key(1, 0, 0, 1, 2));
            m.addShot(1);
            same("the first one", 1, () -> m.key(2, 3, 3, 0, 0));
        });
        says("Throws `IndexOutOfBoundsException` if there is no such shot, slot, channel or place", () -> {
            boundsOfShots((m, shot) -> m.key(shot, 0, 0, 0, 1));
            bounds(INDEX, BUSY, 0, 1, (m, place) -> m.key(1, 0, 0, place, 1));
            bounds(INDEX, FIVE_SHOTS, 0, 15, (m, place) -> m.key(4, 0, 0, place, 1));
            refuses(INDEX, TWENTY_KEYS, (m, place) -> m.key(0, 1, 0, place, 1), -1, 5);
        });
        says("Throws `IllegalArgumentException` if value is out of range", () -> {
            refuses(ARGUMENT, BUSY, (m, value) -> m.key(0, 0, 0, 0, value), -10000, 10000);
            refuses(ARGUMENT, TWENTY_KEYS, (m, value) -> m.key(0, 0, 0, 0, value), -10000, 10000);
        });
        says("Throws `IllegalStateException` if it has 20, and none is there", () -> {
            refused(STATE, TWENTY_KEYS, m -> m.key(0, 0, 0, 1, 1));
            refused(STATE, TWENTY_KEYS, m -> m.key(0, 3, 3, 4, 0));
            refused(STATE, ShotTerms::twentyKeys, m -> m.key(0, 0, 3, 0, 0));
            same("in place of one that is there", 20, () -> TWENTY_KEYS.make().key(0, 0, 0, 0, 1));
            same("the other shot", 2, () -> TWENTY_KEYS.make().key(1, 0, 0, 0, 1));
            Stories.Story nineteen = Stories.with(TWENTY_KEYS, m -> m.dropKey(0, 0, 0, 0));
            same("the twentieth", 20, () -> nineteen.make().key(0, 3, 3, 4, 0));
        });
    }

    private void dropKey() {
        in("Promise 12: dropKey");
        says("Drops a key.", () -> {
            Marionette m = Stories.busy();
            m.dropKey(0, 0, 0, 0);
            row("the other one is left", place -> m.channel(0, 0, 0, place), 70, 70, 70, 70, 70);
            m.dropKey(0, 0, 0, 3);
            row("none is left", place -> m.channel(0, 0, 0, place), 0, 0, 0, 0, 0);
            same("but that of another slot", 9, () -> m.channel(0, 2, 3, 0));
        });
        says("- `slot`: 0 to 3", () -> bounds(INDEX, ShotBounds::fourKeys, 0, 3,
            (m, slot) -> m.dropKey(0, slot, within3(slot), within3(slot))));
        says("- `channel`: 0 to 3", () -> bounds(INDEX, ShotBounds::fourKeys, 0, 3,
            (m, channel) -> m.dropKey(0, within3(channel), channel, within3(channel))));
        says("- `place`: 0 for the first frame of the row", () -> bounds(INDEX, ShotBounds::fourKeys, 0, 3,
            (m, place) -> m.dropKey(0, within3(place), within3(place), place)));
        says("Returns how many keys the shot has then.", () -> {
            Marionette m = Stories.busy();
            same("two", 2, () -> m.dropKey(0, 0, 0, 3));
            same("one", 1, () -> m.dropKey(0, 2, 3, 1));
            same("none", 0, () -> m.dropKey(0, 0, 0, 0));
            same("the other shot", 1, () -> m.shot(1, 1));
            same("of twenty", 19, () -> TWENTY_KEYS.make().dropKey(0, 0, 0, 0));
        });
        says("Throws `IndexOutOfBoundsException` if there is no such shot, slot, channel or place", () -> {
            bounds(INDEX, Stories.with(BUSY, m -> m.key(1, 0, 0, 0, 1)), 0, 1, (m, shot) -> m.dropKey(shot, 0, 0, 0));
            refuses(INDEX, EMPTY, (m, shot) -> m.dropKey(shot, 0, 0, 0), 0, -1);
            refuses(INDEX, BUSY, (m, slot) -> m.dropKey(0, slot, 0, 0), -1, 4);
            refuses(INDEX, BUSY, (m, channel) -> m.dropKey(0, 0, channel, 0), -1, 4);
            refuses(INDEX, BUSY, (m, place) -> m.dropKey(0, 0, 0, place), -1, 5, 15, 16);
        });
        says("Throws `IllegalStateException` if none is there", () -> {
            refuses(STATE, BUSY, (m, place) -> m.dropKey(0, 0, 0, place), 1, 2, 4);
            refuses(STATE, BUSY, (m, slot) -> m.dropKey(0, slot, 0, 0), 1, 2, 3);
            refuses(STATE, BUSY, (m, channel) -> m.dropKey(0, 0, channel, 0), 1, 2, 3);
            refused(STATE, BUSY, m -> m.dropKey(1, 0, 0, 0));
            refused(STATE, Stories.with(BUSY, m -> m.dropKey(0, 0, 0, 0)), m -> m.dropKey(0, 0, 0, 0));
        });
    }

    /** A shot of four frames with a key of the slot 0, channel 0 at 0, of the slot 1, channel 1 at 1, and so on. */
    private static Marionette fourKeys() {
        Marionette m = new Marionette();
        m.addShot(4);
        for (int i = 0; i < 4; i++) {
            m.key(0, i, i, i, i);
        }
        return m;
    }

    private static int within3(int number) {
        return Math.max(0, Math.min(3, number));
    }

    private void setLook() {
        in("Promise 13: setLook");
        says("Sets the colour and the size of a shot.", () -> {
            Marionette m = Stories.busy();
            m.setLook(0, 2, 3);
            same("colour", 2, () -> m.shot(0, 2));
            same("size", 3, () -> m.shot(0, 3));
            m.setLook(0, 0, 1);
            same("colour again", 0, () -> m.shot(0, 2));
            same("size again", 1, () -> m.shot(0, 3));
            same("colour of the other", 1, () -> m.shot(1, 2));
            same("size of the other", 3, () -> m.shot(1, 3));
        });
        says("- `colour`: 0 to 2", () -> bounds(ARGUMENT, BUSY, 0, 2, (m, colour) -> m.setLook(0, colour, 1)));
        says("- `size`: 1 to 4", () -> bounds(ARGUMENT, BUSY, 1, 4, (m, size) -> m.setLook(0, 0, size)));
        says("Throws `IndexOutOfBoundsException` if there is no such shot",
            () -> boundsOfShots((m, shot) -> m.setLook(shot, 1, 2)));
        says("Throws `IllegalArgumentException` if colour or size is out of range", () -> {
            refused(ARGUMENT, BUSY, m -> m.setLook(0, 3, 5));
            refused(ARGUMENT, BUSY, m -> m.setLook(1, 2, 5));
            refused(ARGUMENT, BUSY, m -> m.setLook(1, -1, 4));
        });
    }

    private void approveShot() {
        in("Promise 17: approveShot");
        says("Approves a shot.", () -> {
            Marionette m = Stories.busy();
            m.setLook(1, 0, 1);
            same("not yet", 0, () -> m.shot(1, 4));
            m.approveShot(1);
            same("then", 1, () -> m.shot(1, 4));
        });
        says("Returns whether it was approved.", () -> {
            Marionette m = Stories.busy();
            yes("approved", m.approveShot(1));
            m.setLook(1, 0, 1);
            no("fallen", m.approveShot(1));
            yes("approved again", m.approveShot(1));
        });
        says("Throws `IndexOutOfBoundsException` if there is no such shot", () -> {
            refuses(INDEX, BUSY, (m, shot) -> m.approveShot(shot), -1, 2, LEAST, MOST);
            refuses(INDEX, FIVE_SHOTS, (m, shot) -> m.approveShot(shot), -1, 5);
            refuses(INDEX, EMPTY, (m, shot) -> m.approveShot(shot), 0, -1);
        });
        says("Throws `IllegalStateException` if it cannot be approved, be it already or not", () -> {
            refused(STATE, BUSY, m -> m.approveShot(0));
            same("it is, already", 1, () -> BUSY.make().shot(0, 4));
            refused(STATE, Stories.with(BUSY, m -> m.setLook(0, 0, 1)), m -> m.approveShot(0));
            refused(STATE, FIVE_SHOTS, m -> m.approveShot(4));
            refused(STATE, Stories.with(BUSY, m -> m.retract(0, 1)), m -> m.approveShot(1));
        });
    }

    private void shot() {
        in("Promise 30: shot");
        says("Tells of a shot: 0 how many frames, 1 how many keys it has, 2 its colour, 3 its size, 4 whether it is approved,"
            + " 5 its bid, 6 the hours, 7 how many open notes it has.", () -> {
            Marionette m = Stories.busy();
            row("shot 0, what", what -> m.shot(0, what), 5, 3, 0, 1, 1, 0, 0, 1);
            row("shot 1, what", what -> m.shot(1, what), 2, 1, 1, 3, 1, 50, 20, 2);
            m.setLook(1, 1, 3);
            m.close(2);
            row("shot 1 then, what", what -> m.shot(1, what), 2, 1, 1, 3, 0, 50, 20, 1);
        });
        says("- `what`: 0 to 7", () -> bounds(ARGUMENT, BUSY, 0, 7, (m, what) -> m.shot(0, what)));
        says("Throws `IndexOutOfBoundsException` if there is no such shot", () -> boundsOfShots((m, shot) -> m.shot(shot, 0)));
        says("Throws `IllegalArgumentException` if what is out of range",
            () -> refuses(ARGUMENT, FIVE_SHOTS, (m, what) -> m.shot(4, what), -1, 8, LEAST, MOST));
    }

    private void frame() {
        in("Promise 31: frame");
        says("Returns the name of the frame at a place.", () -> {
            Marionette m = Stories.busy();
            row("at first", place -> m.frame(0, place), 0, 1, 2, 3, 4);
            m.cut(0, 1, 1);
            m.insert(0, 0, 2);
            row("then", place -> m.frame(0, place), 5, 6, 0, 2, 3, 4);
        });
        says("Throws `IndexOutOfBoundsException` if there is no such shot or place", () -> {
            boundsOfShots((m, shot) -> m.frame(shot, 0));
            bounds(INDEX, BUSY, 0, 4, (m, place) -> m.frame(0, place));
            bounds(INDEX, FIVE_SHOTS, 0, 15, (m, place) -> m.frame(4, place));
            bounds(INDEX, Stories.with(BUSY, m -> m.cut(0, 1, 4)), 0, 0, (m, place) -> m.frame(0, place));
        });
    }

    private void channel() {
        in("Promise 32: channel");
        says("Returns what a channel of a slot has at a place.", () -> {
            Marionette m = Stories.busy();
            row("slot 0, channel 0, at", place -> m.channel(0, 0, 0, place), -50, -10, 30, 70, 70);
            row("slot 2, channel 3, at", place -> m.channel(0, 2, 3, place), 9, 9, 9, 9, 9);
            row("slot 0, channel 3, at", place -> m.channel(0, 0, 3, place), 0, 0, 0, 0, 0);
            row("slot 2, channel 0, at", place -> m.channel(0, 2, 0, place), 0, 0, 0, 0, 0);
        });
        says("Throws `IndexOutOfBoundsException` if there is no such shot, slot, channel or place", () -> {
            boundsOfShots((m, shot) -> m.channel(shot, 0, 0, 0));
            bounds(INDEX, BUSY, 0, 3, (m, slot) -> m.channel(0, slot, 0, 0));
            bounds(INDEX, BUSY, 0, 3, (m, channel) -> m.channel(0, 0, channel, 0));
            bounds(INDEX, BUSY, 0, 4, (m, place) -> m.channel(0, 0, 0, place));
            bounds(INDEX, FIVE_SHOTS, 0, 15, (m, place) -> m.channel(4, 3, 3, place));
        });
    }

    private void image() {
        in("Promise 33: image");
        says("Returns the image of a place, made from nothing.", () -> {
            Marionette m = Stories.busy();
            int[] before = {m.count(1), m.count(2), m.count(3)};
            long due = m.value(0, 4, 30, 0, 0, 0) + 3L * m.value(1, 1, 0, 0, 0, 9);
            same("not stored", -1, () -> m.stored(0, 2));
            same("the image", due % 99991, () -> m.image(0, 2));
            m.key(0, 0, 0, 0, 1);
            same("not what is stored", m.value(0, 4, 1, 0, 0, 0) + 3L * m.value(1, 1, 0, 0, 0, 9), () -> m.image(0, 0));
            row("the cache is as it was, count", what -> m.count(1 + what), before[0], before[1], before[2]);
        });
        says("Throws `IndexOutOfBoundsException` if there is no such shot or place", () -> {
            boundsOfShots((m, shot) -> m.image(shot, 0));
            bounds(INDEX, BUSY, 0, 4, (m, place) -> m.image(0, place));
            bounds(INDEX, FIVE_SHOTS, 0, 15, (m, place) -> m.image(4, place));
        });
    }
}
