/** Promises 9 to 17 and 30 to 33: shots, their keys, edits, approvals and images. */
public final class ShotsTest {
    private static final Check CHECK = new Check("ShotsTest");

    public static void main(String[] args) {
        addShotCountsUpToFive();
        aShotIsPlainAtFirst();
        pinTellsWhetherOnePinned();
        pinTestsItsArguments();
        pinLeavesTheKeys();
        keySetsAndReplaces();
        keyTestsItsArguments();
        keyStopsAtTwenty();
        dropKeyDropsOne();
        channelGoesBetweenKeys();
        channelTestsItsArguments();
        setLookTestsItsArguments();
        imageSumsTheSlots();
        imageOfColoursAndSizes();
        imageAndFrameTestTheirArguments();
        insertGivesNewNames();
        insertTestsItsArguments();
        cutTakesFramesWithTheirKeys();
        cutTestsItsArguments();
        moveTakesAllThatIsTheirs();
        moveTestsItsArguments();
        everyEditFellsTheApproval();
        aCallThatThrowsFellsNothing();
        approveShotAsksForPinsAndNotes();
        shotTestsItsArguments();
        CHECK.end();
    }

    /** An asset with an approved version of the content 0, and one shot that pins it in slot 0. */
    private static Marionette withShot(int frames) {
        Marionette m = new Marionette();
        m.addAsset();
        m.publish(0);
        m.approve(0, 1);
        m.addShot(frames);
        m.pin(0, 0, 0, 1);
        return m;
    }

    private static void sameRow(String what, Marionette m, int... names) {
        CHECK.same(what + ": frames", names.length, () -> m.shot(0, 0));
        for (int place = 0; place < names.length; place++) {
            int at = place;
            CHECK.same(what + ": name at " + at, names[at], () -> m.frame(0, at));
        }
        CHECK.noIndex(what + ": behind the last", () -> m.frame(0, names.length));
    }

    private static void sameChannel(String what, Marionette m, int slot, int channel, int... values) {
        for (int place = 0; place < values.length; place++) {
            int at = place;
            CHECK.same(what + " at " + at, values[at], () -> m.channel(0, slot, channel, at));
        }
    }

    private static void addShotCountsUpToFive() {
        Marionette m = new Marionette();
        CHECK.noArgument("0 frames", () -> m.addShot(0));
        CHECK.noArgument("-1 frames", () -> m.addShot(-1));
        CHECK.noArgument("17 frames", () -> m.addShot(17));
        for (int shot = 0; shot < 5; shot++) {
            int frames = shot == 0 ? 1 : 16;
            CHECK.same("shot", shot, () -> m.addShot(frames));
        }
        CHECK.noState("a sixth", () -> m.addShot(1));
        CHECK.noArgument("a sixth of 17", () -> m.addShot(17));
        CHECK.same("one frame", 1, () -> m.shot(0, 0));
        CHECK.same("sixteen frames", 16, () -> m.shot(4, 0));
        CHECK.same("the names begin at 0 in each", 15, () -> m.frame(4, 15));
        CHECK.noIndex("shot 5", () -> m.shot(5, 0));
    }

    private static void aShotIsPlainAtFirst() {
        Marionette m = new Marionette();
        m.addShot(3);
        int[] due = {3, 0, 0, 1, 0, 0, 0, 0};
        for (int what = 0; what < 8; what++) {
            int asked = what;
            CHECK.same("of a new shot " + what, due[what], () -> m.shot(0, asked));
        }
        sameRow("new", m, 0, 1, 2);
        CHECK.same("channel", 0, () -> m.channel(0, 3, 3, 2));
        CHECK.same("image", 0, () -> m.image(0, 2));
        CHECK.same("stored", -1, () -> m.stored(0, 2));
        CHECK.no("current", m.isCurrent(0, 2));
        CHECK.same("where", 0, () -> m.where(0, 2));
        for (int slot = 0; slot < 4; slot++) {
            CHECK.no("slot " + slot, m.pin(0, slot, -1, 0));
        }
    }

    private static void pinTellsWhetherOnePinned() {
        Marionette m = withShot(1);
        CHECK.yes("over one", m.pin(0, 0, 0, 1));
        CHECK.yes("none over one", m.pin(0, 0, -1, 99));
        CHECK.no("none over none", m.pin(0, 0, -1, 99));
        CHECK.no("over none", m.pin(0, 3, 0, 1));
        CHECK.yes("over one again", m.pin(0, 3, 0, 1));
        CHECK.same("the slot counts", 4 * 9, () -> m.image(0, 0));
    }

    private static void pinTestsItsArguments() {
        Marionette m = withShot(1);
        m.publish(0);
        m.retract(0, 2);
        CHECK.noIndex("shot -1", () -> m.pin(-1, 0, 0, 1));
        CHECK.noIndex("shot 1", () -> m.pin(1, 0, 0, 1));
        CHECK.noIndex("slot -1", () -> m.pin(0, -1, 0, 1));
        CHECK.noIndex("slot 4", () -> m.pin(0, 4, 0, 1));
        CHECK.noIndex("slot 4 for none", () -> m.pin(0, 4, -1, 1));
        CHECK.noIndex("asset -2", () -> m.pin(0, 0, -2, 1));
        CHECK.noIndex("asset 1", () -> m.pin(0, 0, 1, 1));
        CHECK.noIndex("version 0", () -> m.pin(0, 0, 0, 0));
        CHECK.noIndex("version 3", () -> m.pin(0, 0, 0, 3));
        CHECK.noIndex("slot 4 goes ahead of retracted", () -> m.pin(0, 4, 0, 2));
        CHECK.noState("retracted", () -> m.pin(0, 0, 0, 2));
        m.retract(0, 1);
        CHECK.noState("the one that is pinned, retracted", () -> m.pin(0, 0, 0, 1));
        CHECK.yes("the slot kept it", m.pin(0, 0, -1, 0));
    }

    private static void pinLeavesTheKeys() {
        Marionette m = withShot(1);
        m.key(0, 0, 0, 0, 5);
        m.pin(0, 0, -1, 0);
        CHECK.same("keys", 1, () -> m.shot(0, 1));
        CHECK.same("channel", 5, () -> m.channel(0, 0, 0, 0));
        CHECK.same("no image of it", 0, () -> m.image(0, 0));
        m.pin(0, 0, 0, 1);
        CHECK.same("image", 14, () -> m.image(0, 0));
    }

    private static void keySetsAndReplaces() {
        Marionette m = withShot(3);
        CHECK.same("first", 1, () -> m.key(0, 0, 0, 0, 9999));
        CHECK.same("another slot", 2, () -> m.key(0, 1, 0, 0, -9999));
        CHECK.same("another channel", 3, () -> m.key(0, 0, 1, 0, 3));
        CHECK.same("another place", 4, () -> m.key(0, 3, 3, 2, 4));
        CHECK.same("in place of the first", 4, () -> m.key(0, 0, 0, 0, 0));
        sameChannel("slot 0 channel 0", m, 0, 0, 0, 0, 0);
        sameChannel("slot 1 channel 0", m, 1, 0, -9999, -9999, -9999);
        sameChannel("slot 0 channel 1", m, 0, 1, 3, 3, 3);
        sameChannel("slot 3 channel 3", m, 3, 3, 4, 4, 4);
        sameChannel("slot 1 channel 1", m, 1, 1, 0, 0, 0);
        CHECK.same("count", 4, () -> m.shot(0, 1));
    }

    private static void keyTestsItsArguments() {
        Marionette m = withShot(3);
        CHECK.noIndex("shot 1", () -> m.key(1, 0, 0, 0, 0));
        CHECK.noIndex("shot -1", () -> m.key(-1, 0, 0, 0, 0));
        CHECK.noIndex("slot 4", () -> m.key(0, 4, 0, 0, 0));
        CHECK.noIndex("slot -1", () -> m.key(0, -1, 0, 0, 0));
        CHECK.noIndex("channel 4", () -> m.key(0, 0, 4, 0, 0));
        CHECK.noIndex("channel -1", () -> m.key(0, 0, -1, 0, 0));
        CHECK.noIndex("place 3", () -> m.key(0, 0, 0, 3, 0));
        CHECK.noIndex("place -1", () -> m.key(0, 0, 0, -1, 0));
        CHECK.noIndex("place 3 goes ahead of a wrong value", () -> m.key(0, 0, 0, 3, 10000));
        CHECK.noArgument("value 10000", () -> m.key(0, 0, 0, 0, 10000));
        CHECK.noArgument("value -10000", () -> m.key(0, 0, 0, 0, -10000));
        CHECK.same("none was set", 0, () -> m.shot(0, 1));
    }

    private static void keyStopsAtTwenty() {
        Marionette m = withShot(16);
        for (int i = 0; i < 20; i++) {
            int at = i;
            CHECK.same("key", i + 1, () -> m.key(0, at / 16, at / 4 % 4, at % 16, at));
        }
        CHECK.noState("one more", () -> m.key(0, 3, 3, 0, 1));
        CHECK.noArgument("one more, wrong", () -> m.key(0, 3, 3, 0, 10000));
        CHECK.noIndex("one more nowhere", () -> m.key(0, 3, 3, 16, 10000));
        CHECK.same("in place of one", 20, () -> m.key(0, 0, 0, 0, 77));
        CHECK.same("its number", 77, () -> m.channel(0, 0, 0, 0));
        CHECK.same("dropped", 19, () -> m.dropKey(0, 0, 0, 0));
        CHECK.same("and set", 20, () -> m.key(0, 3, 3, 0, 1));
        m.addShot(1);
        CHECK.same("another shot", 1, () -> m.key(1, 0, 0, 0, 1));
    }

    private static void dropKeyDropsOne() {
        Marionette m = withShot(3);
        m.key(0, 1, 2, 0, 10);
        m.key(0, 1, 2, 2, 20);
        CHECK.noState("another slot", () -> m.dropKey(0, 0, 2, 0));
        CHECK.noState("another channel", () -> m.dropKey(0, 1, 1, 0));
        CHECK.noState("between", () -> m.dropKey(0, 1, 2, 1));
        CHECK.noIndex("shot 1", () -> m.dropKey(1, 1, 2, 0));
        CHECK.noIndex("slot 4", () -> m.dropKey(0, 4, 2, 0));
        CHECK.noIndex("slot -1", () -> m.dropKey(0, -1, 2, 0));
        CHECK.noIndex("channel 4", () -> m.dropKey(0, 1, 4, 0));
        CHECK.noIndex("channel -1", () -> m.dropKey(0, 1, -1, 0));
        CHECK.noIndex("place 3", () -> m.dropKey(0, 1, 2, 3));
        CHECK.noIndex("place -1", () -> m.dropKey(0, 1, 2, -1));
        CHECK.same("one", 1, () -> m.dropKey(0, 1, 2, 0));
        sameChannel("behind that", m, 1, 2, 20, 20, 20);
        CHECK.noState("once more", () -> m.dropKey(0, 1, 2, 0));
        CHECK.same("the other", 0, () -> m.dropKey(0, 1, 2, 2));
        sameChannel("without keys", m, 1, 2, 0, 0, 0);
    }

    private static void channelGoesBetweenKeys() {
        Marionette m = withShot(9);
        m.key(0, 0, 1, 1, 10);
        m.key(0, 0, 1, 4, -1);
        m.key(0, 0, 1, 7, 6);
        sameChannel("down and up", m, 0, 1, 10, 10, 7, 3, -1, 1, 3, 6, 6);
        m.dropKey(0, 0, 1, 4);
        sameChannel("without the middle", m, 0, 1, 10, 10, 10, 9, 8, 8, 7, 6, 6);
        m.key(0, 0, 1, 1, -9999);
        m.key(0, 0, 1, 7, 9999);
        sameChannel("far", m, 0, 1, -9999, -9999, -6666, -3333, 0, 3333, 6666, 9999, 9999);
    }

    private static void channelTestsItsArguments() {
        Marionette m = withShot(2);
        CHECK.noIndex("shot 1", () -> m.channel(1, 0, 0, 0));
        CHECK.noIndex("shot -1", () -> m.channel(-1, 0, 0, 0));
        CHECK.noIndex("slot 4", () -> m.channel(0, 4, 0, 0));
        CHECK.noIndex("slot -1", () -> m.channel(0, -1, 0, 0));
        CHECK.noIndex("channel 4", () -> m.channel(0, 0, 4, 0));
        CHECK.noIndex("channel -1", () -> m.channel(0, 0, -1, 0));
        CHECK.noIndex("place 2", () -> m.channel(0, 0, 0, 2));
        CHECK.noIndex("place -1", () -> m.channel(0, 0, 0, -1));
    }

    private static void setLookTestsItsArguments() {
        Marionette m = withShot(1);
        CHECK.noIndex("shot 1", () -> m.setLook(1, 0, 1));
        CHECK.noIndex("shot 1 goes ahead of a wrong size", () -> m.setLook(1, 0, 5));
        CHECK.noArgument("colour -1", () -> m.setLook(0, -1, 1));
        CHECK.noArgument("colour 3", () -> m.setLook(0, 3, 1));
        CHECK.noArgument("size 0", () -> m.setLook(0, 2, 0));
        CHECK.noArgument("size 5", () -> m.setLook(0, 2, 5));
        CHECK.same("colour stays", 0, () -> m.shot(0, 2));
        m.setLook(0, 2, 4);
        CHECK.same("colour", 2, () -> m.shot(0, 2));
        CHECK.same("size", 4, () -> m.shot(0, 3));
    }

    private static void imageSumsTheSlots() {
        Marionette m = new Marionette();
        m.addAsset();
        m.content(900);
        m.publish(0);
        m.constrain(0, 1, 0, 0);
        m.publish(0);
        m.addShot(2);
        m.pin(0, 0, 0, 1);
        m.pin(0, 1, 0, 2);
        m.pin(0, 3, 0, 1);
        m.key(0, 0, 0, 0, 1);
        m.key(0, 1, 0, 1, 7);
        m.key(0, 3, 3, 0, 2);
        m.key(0, 3, 3, 1, 3);
        m.key(0, 2, 0, 1, 1000);
        long one = 31 * 900 + 9;
        CHECK.same("place 0", (one + 1 + 2 * (9 + 21) + 4 * (one + 8)) % 99991, () -> m.image(0, 0));
        CHECK.same("place 1", (one + 1 + 2 * (9 + 21) + 4 * (one + 12)) % 99991, () -> m.image(0, 1));
        CHECK.same("no cache", 0, () -> m.count(1) + m.count(2));
    }

    private static void imageOfColoursAndSizes() {
        Marionette m = new Marionette();
        m.addAsset();
        m.content(999);
        m.publish(0);
        m.addShot(1);
        for (int slot = 0; slot < 4; slot++) {
            m.pin(0, slot, 0, 1);
        }
        long sum = 10 * (31 * 999 + 9);
        for (int size = 1; size <= 4; size++) {
            int by = size;
            m.setLook(0, 0, by);
            CHECK.same("colour 0, size " + by, sum / by % 99991, () -> m.image(0, 0));
            m.setLook(0, 1, by);
            CHECK.same("colour 1, size " + by, (3 * sum + 7) / by % 99991, () -> m.image(0, 0));
            m.setLook(0, 2, by);
            CHECK.same("colour 2, size " + by, (5 * sum + 11) / by % 99991, () -> m.image(0, 0));
        }
        m.addShot(1);
        m.setLook(1, 1, 2);
        CHECK.same("nothing pinned", 3, () -> m.image(1, 0));
    }

    private static void imageAndFrameTestTheirArguments() {
        Marionette m = withShot(2);
        CHECK.noIndex("image of shot 1", () -> m.image(1, 0));
        CHECK.noIndex("image of shot -1", () -> m.image(-1, 0));
        CHECK.noIndex("image at 2", () -> m.image(0, 2));
        CHECK.noIndex("image at -1", () -> m.image(0, -1));
        CHECK.noIndex("frame of shot 1", () -> m.frame(1, 0));
        CHECK.noIndex("frame of shot -1", () -> m.frame(-1, 0));
        CHECK.noIndex("frame at 2", () -> m.frame(0, 2));
        CHECK.noIndex("frame at -1", () -> m.frame(0, -1));
    }

    private static void insertGivesNewNames() {
        Marionette m = withShot(3);
        m.key(0, 0, 0, 0, 0);
        m.key(0, 0, 0, 1, 6);
        CHECK.same("between", 5, () -> m.insert(0, 1, 2));
        sameRow("between", m, 0, 3, 4, 1, 2);
        sameChannel("between", m, 0, 0, 0, 2, 4, 6, 6);
        CHECK.same("ahead of all", 6, () -> m.insert(0, 0, 1));
        sameRow("ahead of all", m, 5, 0, 3, 4, 1, 2);
        CHECK.same("behind all", 7, () -> m.insert(0, 6, 1));
        sameRow("behind all", m, 5, 0, 3, 4, 1, 2, 6);
        sameChannel("keys stay with their frames", m, 0, 0, 0, 0, 2, 4, 6, 6, 6);
        CHECK.same("no new keys", 2, () -> m.shot(0, 1));
        CHECK.same("full", 16, () -> m.insert(0, 3, 9));
        CHECK.same("last name", 15, () -> m.frame(0, 11));
    }

    private static void insertTestsItsArguments() {
        Marionette m = withShot(3);
        CHECK.noIndex("shot 1", () -> m.insert(1, 0, 1));
        CHECK.noIndex("place -1", () -> m.insert(0, -1, 1));
        CHECK.noIndex("place 4", () -> m.insert(0, 4, 1));
        CHECK.noIndex("place 4 goes ahead of many", () -> m.insert(0, 4, 0));
        CHECK.noArgument("many 0", () -> m.insert(0, 0, 0));
        CHECK.noArgument("many 17", () -> m.insert(0, 0, 17));
        CHECK.noArgument("many far", () -> m.insert(0, 0, Integer.MAX_VALUE));
        CHECK.noState("many 14", () -> m.insert(0, 0, 14));
        sameRow("as it was", m, 0, 1, 2);
        CHECK.same("many 13", 16, () -> m.insert(0, 3, 13));
        CHECK.noState("a seventeenth", () -> m.insert(0, 0, 1));
    }

    private static void cutTakesFramesWithTheirKeys() {
        Marionette m = withShot(5);
        m.key(0, 0, 0, 1, 10);
        m.key(0, 0, 0, 2, 20);
        m.key(0, 1, 1, 2, 30);
        m.key(0, 0, 0, 3, 40);
        CHECK.same("from the middle", 3, () -> m.cut(0, 1, 2));
        sameRow("from the middle", m, 0, 3, 4);
        CHECK.same("keys", 1, () -> m.shot(0, 1));
        sameChannel("what is left", m, 0, 0, 40, 40, 40);
        sameChannel("nothing left", m, 1, 1, 0, 0, 0);
        CHECK.same("new ones", 5, () -> m.insert(0, 1, 2));
        sameRow("names never come again", m, 0, 5, 6, 3, 4);
        sameChannel("no keys come again", m, 0, 0, 40, 40, 40, 40, 40);
        CHECK.same("keys then", 1, () -> m.shot(0, 1));
        CHECK.noState("no key there", () -> m.dropKey(0, 0, 0, 1));
        CHECK.same("the first ones", 2, () -> m.cut(0, 0, 3));
        sameRow("the first ones", m, 3, 4);
        CHECK.same("the last one", 1, () -> m.cut(0, 1, 1));
        sameRow("the last one", m, 3);
        CHECK.same("its key", 40, () -> m.channel(0, 0, 0, 0));

        Marionette full = withShot(16);
        for (int i = 0; i < 16; i++) {
            full.key(0, i / 4, i % 4, 15, 1);
        }
        sameChannel("ahead of a key at the end", full, 3, 3, 1, 1);
        CHECK.same("the last of sixteen", 15, () -> full.cut(0, 15, 1));
        CHECK.same("the keys of all slots and channels", 0, () -> full.shot(0, 1));
        CHECK.same("all but the first", 1, () -> full.cut(0, 1, 14));
    }

    private static void cutTestsItsArguments() {
        Marionette m = withShot(3);
        CHECK.noIndex("shot 1", () -> m.cut(1, 0, 1));
        CHECK.noIndex("place -1", () -> m.cut(0, -1, 1));
        CHECK.noIndex("place 3", () -> m.cut(0, 3, 1));
        CHECK.noIndex("place 3 goes ahead of many", () -> m.cut(0, 3, 0));
        CHECK.noArgument("many 0", () -> m.cut(0, 0, 0));
        CHECK.noArgument("many -1", () -> m.cut(0, 0, -1));
        CHECK.noArgument("many 4", () -> m.cut(0, 0, 4));
        CHECK.noArgument("too many from there on", () -> m.cut(0, 2, 2));
        CHECK.noArgument("many far", () -> m.cut(0, 2, Integer.MAX_VALUE));
        CHECK.noState("all", () -> m.cut(0, 0, 3));
        sameRow("as it was", m, 0, 1, 2);
        CHECK.same("all but one", 1, () -> m.cut(0, 1, 2));
        CHECK.noState("the only one", () -> m.cut(0, 0, 1));
    }

    private static void moveTakesAllThatIsTheirs() {
        Marionette m = withShot(5);
        m.key(0, 0, 0, 0, 0);
        m.key(0, 0, 0, 3, 30);
        m.move(0, 0, 2, 3);
        sameRow("to the end", m, 2, 3, 4, 0, 1);
        sameChannel("to the end", m, 0, 0, 30, 30, 15, 0, 0);
        m.move(0, 3, 2, 0);
        sameRow("and back", m, 0, 1, 2, 3, 4);
        sameChannel("and back", m, 0, 0, 0, 10, 20, 30, 30);
        m.move(0, 1, 1, 2);
        sameRow("one by one", m, 0, 2, 1, 3, 4);
        m.move(0, 3, 2, 1);
        sameRow("two ahead", m, 0, 3, 4, 2, 1);
        m.move(0, 0, 5, 0);
        sameRow("all", m, 0, 3, 4, 2, 1);
        m.move(0, 2, 2, 2);
        sameRow("to where they are", m, 0, 3, 4, 2, 1);
        CHECK.same("keys", 2, () -> m.shot(0, 1));
    }

    private static void moveTestsItsArguments() {
        Marionette m = withShot(3);
        CHECK.noIndex("shot 1", () -> m.move(1, 0, 1, 0));
        CHECK.noIndex("place -1", () -> m.move(0, -1, 1, 0));
        CHECK.noIndex("place 3", () -> m.move(0, 3, 1, 0));
        CHECK.noIndex("place 3 goes ahead of many", () -> m.move(0, 3, 0, 0));
        CHECK.noArgument("many 0", () -> m.move(0, 0, 0, 0));
        CHECK.noArgument("many -1", () -> m.move(0, 0, -1, 0));
        CHECK.noArgument("too many from there on", () -> m.move(0, 2, 2, 0));
        CHECK.noArgument("many far", () -> m.move(0, 2, Integer.MAX_VALUE, 0));
        CHECK.noArgument("to -1", () -> m.move(0, 0, 1, -1));
        CHECK.noArgument("to 3 with 1", () -> m.move(0, 0, 1, 3));
        CHECK.noArgument("to 1 with 3", () -> m.move(0, 0, 3, 1));
        sameRow("as it was", m, 0, 1, 2);
        m.move(0, 0, 1, 2);
        sameRow("to 2 with 1", m, 1, 2, 0);
    }

    private static void falls(String what, Marionette m, Check.Act edit) {
        m.approveShot(0);
        CHECK.same(what + ": approved ahead of it", 1, () -> m.shot(0, 4));
        edit.run();
        CHECK.same(what + ": approved behind it", 0, () -> m.shot(0, 4));
    }

    private static void everyEditFellsTheApproval() {
        Marionette m = withShot(3);
        falls("the same pin", m, () -> m.pin(0, 0, 0, 1));
        falls("none over none", m, () -> m.pin(0, 2, -1, 1));
        falls("a key", m, () -> m.key(0, 0, 0, 0, 5));
        falls("the same key", m, () -> m.key(0, 0, 0, 0, 5));
        falls("a key of a slot that does not pin", m, () -> m.key(0, 3, 0, 0, 5));
        falls("a key dropped", m, () -> m.dropKey(0, 3, 0, 0));
        falls("the same look", m, () -> m.setLook(0, 0, 1));
        falls("frames inserted", m, () -> m.insert(0, 3, 1));
        falls("a frame cut", m, () -> m.cut(0, 3, 1));
        falls("frames moved to where they are", m, () -> m.move(0, 0, 1, 0));
        m.addShot(1);
        m.approveShot(0);
        m.pin(1, 0, 0, 1);
        m.note(0, 0, 2);
        m.work(0, 1, 99);
        m.addMachine(1, 0);
        m.render(0);
        m.tick(9);
        m.dropImages(0);
        m.deliver(0, 0);
        m.publish(0);
        m.retract(0, 2);
        CHECK.same("nothing else does", 1, () -> m.shot(0, 4));
    }

    private static void aCallThatThrowsFellsNothing() {
        Marionette m = withShot(3);
        m.key(0, 0, 0, 0, 5);
        m.approveShot(0);
        CHECK.noIndex("pin", () -> m.pin(0, 0, 0, 9));
        CHECK.noArgument("key", () -> m.key(0, 0, 0, 0, 10000));
        CHECK.noState("dropKey", () -> m.dropKey(0, 0, 0, 1));
        CHECK.noArgument("setLook", () -> m.setLook(0, 0, 5));
        CHECK.noState("insert", () -> m.insert(0, 0, 16));
        CHECK.noState("cut", () -> m.cut(0, 0, 3));
        CHECK.noArgument("move", () -> m.move(0, 0, 1, 3));
        CHECK.same("still approved", 1, () -> m.shot(0, 4));
        CHECK.same("still keyed", 5, () -> m.channel(0, 0, 0, 0));
    }

    private static void approveShotAsksForPinsAndNotes() {
        Marionette m = new Marionette();
        m.addAsset();
        m.publish(0);
        m.publish(0);
        m.addShot(2);
        m.addShot(2);
        m.pin(1, 0, 0, 1);
        CHECK.noState("slot 0 not approved", () -> m.approveShot(1));
        CHECK.noIndex("shot 2", () -> m.approveShot(2));
        CHECK.noIndex("shot -1", () -> m.approveShot(-1));
        CHECK.noState("nothing pinned", () -> m.approveShot(0));
        m.pin(0, 1, 0, 1);
        m.pin(0, 3, 0, 2);
        CHECK.noState("none approved", () -> m.approveShot(0));
        m.approve(0, 1);
        CHECK.noState("one approved", () -> m.approveShot(0));
        m.approve(0, 2);
        CHECK.no("all approved", m.approveShot(0));
        CHECK.yes("again", m.approveShot(0));
        m.note(0, 0, 0);
        m.note(0, 0, 1);
        m.note(1, 0, 2);
        CHECK.yes("lighter notes, and one of another shot", m.approveShot(0));
        m.note(0, 1, 2);
        CHECK.same("a note fells nothing", 1, () -> m.shot(0, 4));
        CHECK.noState("a note of the weight 2", () -> m.approveShot(0));
        m.close(3);
        CHECK.yes("closed", m.approveShot(0));
        m.retract(0, 2);
        CHECK.same("fallen", 0, () -> m.shot(0, 4));
        CHECK.noState("a retracted one pinned", () -> m.approveShot(0));
        m.pin(0, 3, -1, 0);
        CHECK.no("no more", m.approveShot(0));
    }

    private static void shotTestsItsArguments() {
        Marionette m = withShot(2);
        CHECK.noIndex("shot -1", () -> m.shot(-1, 0));
        CHECK.noIndex("shot 1", () -> m.shot(1, 0));
        CHECK.noIndex("shot 1 goes ahead of what", () -> m.shot(1, 8));
        CHECK.noArgument("what -1", () -> m.shot(0, -1));
        CHECK.noArgument("what 8", () -> m.shot(0, 8));
    }
}
