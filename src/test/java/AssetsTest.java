/** Promises 1 to 8 and 27 to 29: assets, versions, and their values. */
public final class AssetsTest {
    private static final Check CHECK = new Check("AssetsTest");

    public static void main(String[] args) {
        aNewObjectHasNothing();
        addAssetCountsUpToTen();
        contentStaysInRangeAndTellsTheOneBefore();
        constrainTestsChannelsThenRangesThenRoom();
        publishMakesTheDraftAVersion();
        publishRefusesASeventhVersion();
        parentRefusesAFourthAndTooHighOnes();
        tenAssetsHaveSixVersionsEach();
        publishRefusesARetractedParent();
        retractFellsAllThatStandsOnIt();
        approveAsksForTheParents();
        versionsAndVersionTestTheirArguments();
        valueOfContentAndChannels();
        valueOfConstraints();
        constraintsAreDoneInTheirOrder();
        channelsAreKeptWithinBounds();
        valueOfParents();
        valueTestsItsArguments();
        CHECK.end();
    }

    private static void aNewObjectHasNothing() {
        Marionette m = new Marionette();
        CHECK.noIndex("no asset", () -> m.versions(0));
        CHECK.noIndex("no shot", () -> m.shot(0, 0));
        CHECK.noIndex("no machine", () -> m.machine(0, 0));
        CHECK.noIndex("no note", () -> m.placeOf(0));
        CHECK.noIndex("no delivery", () -> m.delivered(0, 0));
        for (int what = 0; what < 8; what++) {
            int asked = what;
            CHECK.same("count " + what, what == 6 ? 200 : 0, () -> m.count(asked));
        }
        m.addAsset();
        m.publish(0);
        CHECK.same("empty draft: content", 0, () -> m.version(0, 1, 0));
        CHECK.same("empty draft: height", 1, () -> m.version(0, 1, 1));
        CHECK.same("empty draft: constraints", 0, () -> m.version(0, 1, 2));
        CHECK.same("empty draft: parents", 0, () -> m.version(0, 1, 3));
        CHECK.same("empty draft: retracted", 0, () -> m.version(0, 1, 4));
        CHECK.same("empty draft: approved", 0, () -> m.version(0, 1, 5));
    }

    private static void addAssetCountsUpToTen() {
        Marionette m = new Marionette();
        for (int asset = 0; asset < 10; asset++) {
            CHECK.same("asset", asset, m::addAsset);
        }
        CHECK.noState("an eleventh asset", m::addAsset);
        CHECK.same("the tenth asset", 0, () -> m.versions(9));
        CHECK.noIndex("the eleventh asset", () -> m.versions(10));
        CHECK.noIndex("the asset -1", () -> m.versions(-1));
    }

    private static void contentStaysInRangeAndTellsTheOneBefore() {
        Marionette m = new Marionette();
        CHECK.same("first content", 0, () -> m.content(999));
        CHECK.same("second content", 999, () -> m.content(7));
        CHECK.noArgument("content -1", () -> m.content(-1));
        CHECK.noArgument("content 1000", () -> m.content(1000));
        CHECK.same("content that stayed", 7, () -> m.content(0));
        CHECK.same("content 0", 0, () -> m.content(0));
    }

    private static void constrainTestsChannelsThenRangesThenRoom() {
        Marionette m = new Marionette();
        CHECK.noIndex("target -1", () -> m.constrain(0, -1, 0, 0));
        CHECK.noIndex("target 4, with a wrong kind", () -> m.constrain(9, 4, 0, 0));
        CHECK.noIndex("source -1", () -> m.constrain(0, 0, -1, 0));
        CHECK.noIndex("source 4 of LIMIT", () -> m.constrain(3, 0, 4, 0));
        CHECK.noArgument("kind -1", () -> m.constrain(-1, 0, 0, 0));
        CHECK.noArgument("kind 4", () -> m.constrain(4, 0, 0, 0));
        CHECK.noArgument("COPY 1", () -> m.constrain(0, 0, 0, 1));
        CHECK.noArgument("COPY -1", () -> m.constrain(0, 0, 0, -1));
        CHECK.noArgument("ADD 1", () -> m.constrain(1, 0, 0, 1));
        CHECK.noArgument("ADD -1", () -> m.constrain(1, 0, 0, -1));
        CHECK.noArgument("SCALE -9", () -> m.constrain(2, 0, 0, -9));
        CHECK.noArgument("SCALE 9", () -> m.constrain(2, 0, 0, 9));
        CHECK.noArgument("LIMIT -1", () -> m.constrain(3, 0, 0, -1));
        CHECK.noArgument("LIMIT 1000", () -> m.constrain(3, 0, 0, 1000));
        CHECK.same("COPY", 1, () -> m.constrain(0, 3, 3, 0));
        CHECK.same("ADD", 2, () -> m.constrain(1, 0, 3, 0));
        CHECK.same("SCALE -8", 3, () -> m.constrain(2, 0, 0, -8));
        CHECK.same("SCALE 8", 4, () -> m.constrain(2, 0, 0, 8));
        CHECK.same("LIMIT 0", 5, () -> m.constrain(3, 0, 0, 0));
        CHECK.same("LIMIT 999", 6, () -> m.constrain(3, 0, 0, 999));
        CHECK.noState("a seventh", () -> m.constrain(0, 0, 0, 0));
        CHECK.noArgument("a seventh of a wrong kind", () -> m.constrain(4, 0, 0, 0));
        CHECK.noIndex("a seventh of a wrong channel", () -> m.constrain(0, 0, 4, 0));
        m.addAsset();
        m.publish(0);
        CHECK.same("six constraints", 6, () -> m.version(0, 1, 2));
    }

    private static void publishMakesTheDraftAVersion() {
        Marionette m = new Marionette();
        m.addAsset();
        m.addAsset();
        m.publish(0);
        m.content(12);
        m.constrain(0, 0, 1, 0);
        m.parent(0, 1);
        CHECK.noIndex("asset 2", () -> m.publish(2));
        CHECK.noIndex("asset -1", () -> m.publish(-1));
        CHECK.same("version", 1, () -> m.publish(1));
        CHECK.same("content", 12, () -> m.version(1, 1, 0));
        CHECK.same("height", 2, () -> m.version(1, 1, 1));
        CHECK.same("constraints", 1, () -> m.version(1, 1, 2));
        CHECK.same("parents", 1, () -> m.version(1, 1, 3));
        CHECK.same("an empty draft", 2, () -> m.publish(1));
        CHECK.same("empty content", 0, () -> m.version(1, 2, 0));
        CHECK.same("empty height", 1, () -> m.version(1, 2, 1));
        CHECK.same("empty constraints", 0, () -> m.version(1, 2, 2));
        CHECK.same("empty parents", 0, () -> m.version(1, 2, 3));
        CHECK.same("versions", 2, () -> m.versions(1));
        CHECK.same("versions of the other", 1, () -> m.versions(0));
        CHECK.same("it stays as it is", 12, () -> m.version(1, 1, 0));
    }

    private static void publishRefusesASeventhVersion() {
        Marionette m = new Marionette();
        m.addAsset();
        m.addAsset();
        for (int version = 1; version <= 6; version++) {
            CHECK.same("version", version, () -> m.publish(0));
        }
        m.content(5);
        CHECK.noState("a seventh", () -> m.publish(0));
        CHECK.same("the draft stays", 5, () -> m.content(5));
        CHECK.same("six", 6, () -> m.versions(0));
        CHECK.same("another asset", 1, () -> m.publish(1));
        CHECK.same("its content", 5, () -> m.version(1, 1, 0));
    }

    private static void tenAssetsHaveSixVersionsEach() {
        Marionette m = new Marionette();
        for (int asset = 0; asset < 10; asset++) {
            m.addAsset();
            for (int version = 1; version <= 6; version++) {
                int of = asset;
                m.content(10 * asset + version);
                CHECK.same("version", version, () -> m.publish(of));
            }
        }
        CHECK.same("the last of all", 96, () -> m.version(9, 6, 0));
        m.approve(9, 6);
        CHECK.same("its approval falls", 1, () -> m.retract(9, 6));
    }

    private static void parentRefusesAFourthAndTooHighOnes() {
        Marionette m = new Marionette();
        m.addAsset();
        m.publish(0);
        CHECK.noIndex("asset 1", () -> m.parent(1, 1));
        CHECK.noIndex("asset -1", () -> m.parent(-1, 1));
        CHECK.noIndex("version 0", () -> m.parent(0, 0));
        CHECK.noIndex("version 2", () -> m.parent(0, 2));
        for (int version = 1; version <= 3; version++) {
            int parent = version;
            CHECK.same("a parent of the same asset", 1, () -> m.parent(0, parent));
            m.publish(0);
        }
        CHECK.same("height 4", 4, () -> m.version(0, 4, 1));
        CHECK.noState("a parent of the height 4", () -> m.parent(0, 4));
        CHECK.same("first", 1, () -> m.parent(0, 3));
        CHECK.same("second", 2, () -> m.parent(0, 1));
        CHECK.same("third, twice the same", 3, () -> m.parent(0, 1));
        CHECK.noState("a fourth", () -> m.parent(0, 1));
        CHECK.noIndex("a fourth that is not there", () -> m.parent(0, 9));
        m.publish(0);
        CHECK.same("the greatest counts", 4, () -> m.version(0, 5, 1));
        CHECK.same("three parents", 3, () -> m.version(0, 5, 3));
    }

    private static void publishRefusesARetractedParent() {
        Marionette m = new Marionette();
        m.addAsset();
        m.publish(0);
        m.parent(0, 1);
        m.publish(0);
        m.retract(0, 1);
        m.parent(0, 2);
        CHECK.same("a retracted one only further up", 3, () -> m.publish(0));
        CHECK.same("a retracted parent", 1, () -> m.parent(0, 1));
        CHECK.noState("of the draft", () -> m.publish(0));
        CHECK.same("the draft keeps it", 2, () -> m.parent(0, 2));
        CHECK.noIndex("no asset goes first", () -> m.publish(1));
        CHECK.same("three versions", 3, () -> m.versions(0));
    }

    /** Versions 1 <- 2 <- 3, and 4 alone; shots 0 of 3, 1 of 4, 2 of both. */
    private static Marionette family() {
        Marionette m = new Marionette();
        m.addAsset();
        m.publish(0);
        m.parent(0, 1);
        m.publish(0);
        m.parent(0, 2);
        m.publish(0);
        m.publish(0);
        for (int version = 1; version <= 4; version++) {
            m.approve(0, version);
        }
        int[][] pins = {{3}, {4}, {4, 3}};
        for (int shot = 0; shot < 3; shot++) {
            m.addShot(1);
            for (int slot = 0; slot < pins[shot].length; slot++) {
                m.pin(shot, slot, 0, pins[shot][slot]);
            }
            m.approveShot(shot);
        }
        return m;
    }

    private static void retractFellsAllThatStandsOnIt() {
        Marionette m = family();
        CHECK.noIndex("asset 1", () -> m.retract(1, 1));
        CHECK.noIndex("version 0", () -> m.retract(0, 0));
        CHECK.noIndex("version 5", () -> m.retract(0, 5));
        CHECK.same("three versions, two shots", 5, () -> m.retract(0, 1));
        CHECK.same("retracted", 1, () -> m.version(0, 1, 4));
        CHECK.same("a child is not retracted", 0, () -> m.version(0, 2, 4));
        int[] approved = {0, 0, 0, 1};
        for (int version = 1; version <= 4; version++) {
            int asked = version;
            CHECK.same("approved " + version, approved[version - 1], () -> m.version(0, asked, 5));
        }
        CHECK.same("shot 0", 0, () -> m.shot(0, 4));
        CHECK.same("shot 1", 1, () -> m.shot(1, 4));
        CHECK.same("shot 2", 0, () -> m.shot(2, 4));
        CHECK.noState("again", () -> m.retract(0, 1));
        CHECK.same("its child, without approvals", 0, () -> m.retract(0, 2));
        CHECK.same("the other", 2, () -> m.retract(0, 4));

        Marionette middle = family();
        CHECK.same("from the middle", 4, () -> middle.retract(0, 2));
        CHECK.same("the parent stays", 1, () -> middle.version(0, 1, 5));
        CHECK.same("marks do not stay", 2, () -> middle.retract(0, 4));
    }

    private static void approveAsksForTheParents() {
        Marionette m = new Marionette();
        m.addAsset();
        m.publish(0);
        m.publish(0);
        m.parent(0, 1);
        m.parent(0, 2);
        m.publish(0);
        CHECK.noIndex("asset 1", () -> m.approve(1, 1));
        CHECK.noIndex("version 0", () -> m.approve(0, 0));
        CHECK.noIndex("version 4", () -> m.approve(0, 4));
        CHECK.noState("no parent approved", () -> m.approve(0, 3));
        CHECK.no("first", m.approve(0, 1));
        CHECK.noState("one parent approved", () -> m.approve(0, 3));
        CHECK.no("second", m.approve(0, 2));
        CHECK.no("third", m.approve(0, 3));
        CHECK.yes("third again", m.approve(0, 3));
        CHECK.same("approved", 1, () -> m.version(0, 3, 5));
        CHECK.same("falls with the second", 2, () -> m.retract(0, 2));
        CHECK.noState("retracted", () -> m.approve(0, 2));
        CHECK.same("the first one falls", 1, () -> m.retract(0, 1));
        m.publish(0);
        m.publish(0);
        m.parent(0, 4);
        m.parent(0, 5);
        m.publish(0);
        m.approve(0, 5);
        CHECK.noState("the first parent is not approved", () -> m.approve(0, 6));
        m.approve(0, 4);
        CHECK.no("both are", m.approve(0, 6));
        CHECK.noState("a retracted parent", () -> m.approve(0, 3));
    }

    private static void versionsAndVersionTestTheirArguments() {
        Marionette m = new Marionette();
        m.addAsset();
        m.publish(0);
        CHECK.noIndex("versions of 1", () -> m.versions(1));
        CHECK.noIndex("asset -1", () -> m.version(-1, 1, 0));
        CHECK.noIndex("asset 1", () -> m.version(1, 1, 0));
        CHECK.noIndex("version 0", () -> m.version(0, 0, 0));
        CHECK.noIndex("version 2", () -> m.version(0, 2, 0));
        CHECK.noIndex("version 2 goes ahead of what", () -> m.version(0, 2, 6));
        CHECK.noArgument("what -1", () -> m.version(0, 1, -1));
        CHECK.noArgument("what 6", () -> m.version(0, 1, 6));
    }

    private static void valueOfContentAndChannels() {
        Marionette m = new Marionette();
        m.addAsset();
        m.publish(0);
        m.content(999);
        m.publish(0);
        // 1, 2, 3 and 4 times 10000 are 100000; less 99991 this is 9.
        CHECK.same("zeros", 9, () -> m.value(0, 1, 0, 0, 0, 0));
        CHECK.same("channel 0", 14, () -> m.value(0, 1, 5, 0, 0, 0));
        CHECK.same("channel 1", 19, () -> m.value(0, 1, 0, 5, 0, 0));
        CHECK.same("channel 2", 24, () -> m.value(0, 1, 0, 0, 5, 0));
        CHECK.same("channel 3", 29, () -> m.value(0, 1, 0, 0, 0, 5));
        CHECK.same("all least", 10, () -> m.value(0, 1, -9999, -9999, -9999, -9999));
        CHECK.same("all greatest", 199990 - 2 * 99991, () -> m.value(0, 1, 9999, 9999, 9999, 9999));
        CHECK.same("content", 9 + 31 * 999, () -> m.value(0, 2, 0, 0, 0, 0));
    }

    /** The value of one constraint for channels, as what its target then has. */
    private static long targetOf(int kind, int target, int source, int number, int... channels) {
        Marionette m = new Marionette();
        m.addAsset();
        m.constrain(kind, target, source, number);
        m.publish(0);
        long others = 100000;
        for (int c = 0; c < 4; c++) {
            others += c == target ? 0 : (c + 1) * channels[c];
        }
        long got = m.value(0, 1, channels[0], channels[1], channels[2], channels[3]);
        // The value fixes what the target has, as 4 times 19999 is less than 99991.
        for (int has = -9999; has <= 9999; has++) {
            if (Math.floorMod(others + (target + 1) * has, 99991) == got) {
                return has;
            }
        }
        return 1000000;
    }

    private static void valueOfConstraints() {
        CHECK.same("COPY", 20, () -> targetOf(0, 0, 1, 0, 10, 20, 30, 40));
        CHECK.same("COPY of itself", 10, () -> targetOf(0, 0, 0, 0, 10, 20, 30, 40));
        CHECK.same("ADD", 60, () -> targetOf(1, 1, 3, 0, 10, 20, 30, 40));
        CHECK.same("ADD of itself", 80, () -> targetOf(1, 3, 3, 0, 10, 20, 30, 40));
        CHECK.same("SCALE", 15, () -> targetOf(2, 2, 1, 3, 10, 20, 30, 40));
        CHECK.same("SCALE rounded toward 0", 5, () -> targetOf(2, 0, 1, 3, 0, 7, 0, 0));
        CHECK.same("SCALE rounded toward 0 from below", -5, () -> targetOf(2, 0, 1, 3, 0, -7, 0, 0));
        CHECK.same("SCALE by a number below 0", -5, () -> targetOf(2, 0, 1, -3, 0, 7, 0, 0));
        CHECK.same("SCALE by 0", 0, () -> targetOf(2, 0, 1, 0, 5, 7, 0, 0));
        CHECK.same("SCALE by 8", 200, () -> targetOf(2, 3, 2, 8, 5, 7, 100, 0));
        CHECK.same("LIMIT above", 50, () -> targetOf(3, 3, 0, 50, 1, 2, 3, 51));
        CHECK.same("LIMIT below", -50, () -> targetOf(3, 3, 0, 50, 1, 2, 3, -51));
        CHECK.same("LIMIT between", -49, () -> targetOf(3, 3, 0, 50, 1, 2, 3, -49));
        CHECK.same("LIMIT to 0", 0, () -> targetOf(3, 1, 0, 0, 1, 2, 3, 4));
        CHECK.same("LIMIT of 999", 999, () -> targetOf(3, 2, 0, 999, 1, 2, 9999, 4));
    }

    private static void constraintsAreDoneInTheirOrder() {
        Marionette m = new Marionette();
        m.addAsset();
        m.constrain(1, 0, 1, 0);
        m.constrain(2, 0, 0, 8);
        m.publish(0);
        m.constrain(2, 0, 0, 8);
        m.constrain(1, 0, 1, 0);
        m.publish(0);
        CHECK.same("ADD, SCALE", 9 + 2 * (3 + 4) + 2 * 4, () -> m.value(0, 1, 3, 4, 0, 0));
        CHECK.same("SCALE, ADD", 9 + 2 * 3 + 4 + 2 * 4, () -> m.value(0, 2, 3, 4, 0, 0));
    }

    private static void channelsAreKeptWithinBounds() {
        CHECK.same("ADD above", 9999, () -> targetOf(1, 0, 1, 0, 9999, 1, 0, 0));
        CHECK.same("ADD below", -9999, () -> targetOf(1, 0, 1, 0, -9999, -1, 0, 0));
        CHECK.same("SCALE above", 9999, () -> targetOf(2, 0, 1, 8, 0, 5000, 0, 0));
        CHECK.same("SCALE below", -9999, () -> targetOf(2, 0, 1, -8, 0, 5000, 0, 0));
        Marionette m = new Marionette();
        m.addAsset();
        m.constrain(1, 0, 0, 0);
        m.constrain(1, 0, 1, 0);
        m.publish(0);
        CHECK.same("kept within after each", 9 + 9998 + 2 * -1, () -> m.value(0, 1, 9000, -1, 0, 0));
    }

    private static void valueOfParents() {
        Marionette m = new Marionette();
        m.addAsset();
        m.content(1);
        m.publish(0);
        m.content(2);
        m.publish(0);
        m.constrain(0, 0, 1, 0);
        m.parent(0, 1);
        m.parent(0, 2);
        m.publish(0);
        // The parents are asked with what the channels have behind the constraints, here 5 and 5.
        long first = 31 + 9 + 5 + 10;
        long second = 62 + 9 + 5 + 10;
        CHECK.same("two parents in their order", 9 + 15 + 7 * first + 14 * second, () -> m.value(0, 3, 1, 5, 0, 0));
        m.constrain(2, 1, 1, 8);
        m.parent(0, 3);
        m.parent(0, 1);
        m.publish(0);
        // 5 becomes 10 for the new one; its parent copies 10 into channel 0, unseen by the other parent.
        long under = 9 + 10 + 20 + 7 * (31 + 9 + 30) + 14 * (62 + 9 + 30);
        long other = 31 + 9 + 1 + 20;
        CHECK.same("a grandparent", (9 + 1 + 20 + 7 * under + 14 * other) % 99991, () -> m.value(0, 4, 1, 5, 0, 0));
        CHECK.same("the cache is not asked", 0, () -> m.count(1) + m.count(2) + m.count(3));
    }

    private static void valueTestsItsArguments() {
        Marionette m = new Marionette();
        m.addAsset();
        m.publish(0);
        CHECK.noIndex("asset 1", () -> m.value(1, 1, 0, 0, 0, 0));
        CHECK.noIndex("version 0", () -> m.value(0, 0, 0, 0, 0, 0));
        CHECK.noIndex("version 2 goes ahead of channels", () -> m.value(0, 2, 10000, 0, 0, 0));
        for (int wrong = -10000; wrong <= 10000; wrong += 20000) {
            int out = wrong;
            CHECK.noArgument("zero " + out, () -> m.value(0, 1, out, 0, 0, 0));
            CHECK.noArgument("one " + out, () -> m.value(0, 1, 0, out, 0, 0));
            CHECK.noArgument("two " + out, () -> m.value(0, 1, 0, 0, out, 0));
            CHECK.noArgument("three " + out, () -> m.value(0, 1, 0, 0, 0, out));
        }
    }
}
