import java.util.Arrays;

/** "Assets" of the terms, and the promises 1 to 8 and 27 to 29. */
final class AssetBounds extends Bounds {
    private static final Stories.Story EMPTY = Stories::empty;
    private static final Stories.Story BUSY = Stories::busy;
    private static final Stories.Story TEN_ASSETS = Stories.with(BUSY, m -> Stories.times(7, m::addAsset));
    private static final Stories.Story SIX_CONSTRAINTS =
        Stories.with(BUSY, m -> Stories.times(4, () -> m.constrain(0, 0, 1, 0)));
    private static final Stories.Story THREE_PARENTS =
        Stories.with(BUSY, m -> Stories.times(2, () -> m.parent(0, 2)));
    private static final Stories.Story SIX_VERSIONS =
        Stories.with(BUSY, m -> {
            Stories.times(6, () -> m.publish(2));
            m.content(55);
            m.constrain(0, 0, 1, 0);
        });

    AssetBounds(Sentences sentences, Check check) {
        super(sentences, check);
    }

    @Override
    void all() {
        termsOfNumbers();
        termsOfConstraints();
        termsOfValues();
        termsOfApprovals();
        newObject();
        addAsset();
        content();
        constrain();
        parent();
        publish();
        retract();
        approve();
        versions();
        version();
        value();
    }

    /** What the document says of a value, without parents. */
    static long valueOf(int content, int... channels) {
        long sum = 31L * content;
        for (int c = 0; c < 4; c++) {
            sum += (c + 1) * (channels[c] + 10000L);
        }
        return sum % 99991;
    }

    private static long valueFor(Marionette m, int version, int... channels) {
        return m.value(0, version, channels[0], channels[1], channels[2], channels[3]);
    }

    /** One asset, and one version of it with one constraint. */
    private static Marionette constrained(int kind, int target, int source, int number) {
        Marionette m = new Marionette();
        m.addAsset();
        m.constrain(kind, target, source, number);
        m.publish(0);
        return m;
    }

    /** The constraint leaves what is due in the target, and all else as it was. */
    private void leaves(int due, int kind, int target, int source, int number, int... channels) {
        int[] then = channels.clone();
        then[target] = due;
        same("kind " + kind + " from " + source + " to " + target + " with " + number + " for " + Arrays.toString(channels),
            valueOf(0, then), () -> valueFor(constrained(kind, target, source, number), 1, channels));
    }

    private void versionIs(String what, Marionette m, int asset, int version, long... due) {
        row(what + ": version " + asset + " " + version, w -> m.version(asset, version, w), due);
    }

    private void termsOfNumbers() {
        in("Assets");
        says("Assets are numbered from 0, at most 10;", () -> {
            Marionette m = new Marionette();
            row("asset", n -> m.addAsset(), 0, 1, 2, 3, 4, 5, 6, 7, 8, 9);
            same("the last one", 0, () -> m.versions(9));
            refused(STATE, TEN_ASSETS, x -> x.addAsset());
            refused(INDEX, TEN_ASSETS, x -> x.versions(10));
        });
        says("the versions of an asset from 1, at most 6.", () -> {
            Marionette m = new Marionette();
            m.addAsset();
            row("version, less 1, for", n -> m.publish(0) - 1, 0, 1, 2, 3, 4, 5);
            same("the last one", 0, () -> m.version(0, 6, 0));
            refused(INDEX, SIX_VERSIONS, x -> x.version(2, 0, 0));
            refused(INDEX, SIX_VERSIONS, x -> x.version(2, 7, 0));
            refused(STATE, SIX_VERSIONS, x -> x.publish(2));
        });
        says("A version is made of a draft, and stays as it is:", () -> {
            Marionette m = new Marionette();
            m.addAsset();
            m.content(5);
            m.constrain(1, 0, 1, 0);
            m.publish(0);
            m.content(9);
            m.constrain(1, 0, 2, 0);
            m.parent(0, 1);
            versionIs("ahead of the next one", m, 0, 1, 5, 1, 1, 0, 0, 0);
            m.publish(0);
            m.approve(0, 1);
            m.retract(0, 1);
            versionIs("behind the next one", m, 0, 1, 5, 1, 1, 0, 1, 0);
            same("its value", valueOf(5, 3, 2, 7, 0), () -> m.value(0, 1, 1, 2, 7, 0));
        });
        says("a content, 0 to 999, 0 at first;", () -> {
            Marionette m = new Marionette();
            m.addAsset();
            m.publish(0);
            m.content(999);
            m.publish(0);
            m.publish(0);
            row("content of the version, less 1,", n -> m.version(0, n + 1, 0), 0, 999, 0);
            refuses(ARGUMENT, BUSY, (x, c) -> x.content(c), -1, 1000);
        });
        says("constraints, at most 6, in an order;", () -> {
            Marionette m = new Marionette();
            m.addAsset();
            for (int i = 0; i < 3; i++) {
                m.constrain(1, 0, 1, 0);
                m.constrain(2, 0, 0, 8);
            }
            versionIs("six", m, 0, m.publish(0), 0, 1, 6);
            // Three times to add 1 and to double: 2, 6, 14.
            same("one by one", valueOf(0, 14, 1, 0, 0), () -> m.value(0, 1, 0, 1, 0, 0));
            refused(STATE, SIX_CONSTRAINTS, x -> x.constrain(0, 0, 0, 0));
        });
        says("parents, at most 3, in an order, which are versions.", () -> {
            Marionette m = threeOrphans();
            m.parent(0, 2);
            m.parent(0, 3);
            m.parent(0, 1);
            versionIs("three", m, 0, m.publish(0), 0, 2, 0, 3);
            long due = 100000 + 7 * valueOf(20, 0, 0, 0, 0) + 14 * valueOf(300, 0, 0, 0, 0) + 21 * valueOf(1, 0, 0, 0, 0);
            same("in their order", due % 99991, () -> m.value(0, 4, 0, 0, 0, 0));
            refused(STATE, THREE_PARENTS, x -> x.parent(0, 1));
        });
        says("Its height is 1 more than the greatest of its parents, 1 without; at most 4.", this::heights);
    }

    private static Marionette threeOrphans() {
        Marionette m = new Marionette();
        m.addAsset();
        int[] contents = {1, 20, 300};
        for (int content : contents) {
            m.content(content);
            m.publish(0);
        }
        return m;
    }

    private void heights() {
        Marionette m = Stories.busy();
        row("of a row of parents, less 1,", n -> m.version(0, n + 1, 1), 1, 2, 3, 4);
        m.publish(2);
        int[][] parents = {{3, 1, 2}, {1, 3}, {1, 2}, {2, 1}, {1}};
        int[] due = {4, 4, 3, 3, 2};
        for (int i = 0; i < parents.length; i++) {
            for (int parent : parents[i]) {
                m.parent(0, parent);
            }
            int version = m.publish(2);
            same("of the parents " + Arrays.toString(parents[i]), due[i], () -> m.version(2, version, 1));
        }
        refused(STATE, BUSY, x -> x.parent(0, 4));
        takes(BUSY, (x, v) -> x.parent(0, v), 3);
    }

    private void termsOfConstraints() {
        in("Assets");
        says("There are the channels 0 to 3, with numbers,", () -> {
            for (int channel = 0; channel < 4; channel++) {
                int[] channels = new int[4];
                channels[channel] = 5;
                leaves(0, 3, channel, 0, 0, channels);
            }
            refuses(INDEX, BUSY, (x, c) -> x.constrain(0, c, 0, 0), -1, 4);
            refuses(INDEX, BUSY, (x, c) -> x.channel(0, 0, c, 0), -1, 4);
        });
        says("kept within -9999 to 9999.", () -> {
            leaves(9999, 1, 0, 1, 0, 9998, 1, 0, 0);
            leaves(9999, 1, 0, 1, 0, 9999, 1, 0, 0);
            leaves(9999, 1, 3, 3, 0, 0, 0, 0, 9999);
            leaves(-9999, 1, 0, 1, 0, -9998, -1, 0, 0);
            leaves(-9999, 1, 0, 1, 0, -9999, -1, 0, 0);
            leaves(-9999, 1, 2, 1, 0, 0, -9999, -9999, 0);
            leaves(9998, 2, 0, 1, 8, 0, 4999, 0, 0);
            leaves(9999, 2, 0, 1, 8, 0, 5000, 0, 0);
            leaves(9999, 2, 0, 1, -8, 0, -9999, 0, 0);
            leaves(-9999, 2, 0, 1, -8, 0, 5000, 0, 0);
            leaves(-9999, 0, 0, 1, 0, 0, -9999, 0, 0);
        });
        says("A constraint changes the channel that is its target:", () -> {
            for (int target = 0; target < 4; target++) {
                leaves(target == 3 ? 40 : 400, target == 3 ? 3 : 0, target, 3, target == 3 ? 40 : 0, 1, 20, 300, 400);
            }
        });
        says("COPY: to what the source has;", () -> {
            for (int source = 0; source < 4; source++) {
                int[] channels = {10, -20, 9999, -9999};
                leaves(channels[source], 0, 1, source, 0, channels);
            }
        });
        says("ADD: by what the source has more;", () -> {
            leaves(30, 1, 0, 1, 0, 10, 20, 0, 0);
            leaves(-10, 1, 0, 1, 0, 10, -20, 0, 0);
            leaves(14, 1, 2, 2, 0, 0, 0, 7, 0);
        });
        says("SCALE: to what the source has, times its number, divided by 4, rounded toward 0;", () -> {
            int[][] sourceNumberDue = {{3, 1, 0}, {-3, 1, 0}, {4, 1, 1}, {-4, 1, -1}, {7, 1, 1}, {-7, 1, -1}, {7, -1, -1},
                {-7, -1, 1}, {1, 8, 2}, {1, -8, -2}, {9999, 0, 0}, {9999, 4, 9999}, {9999, 3, 7499}, {-9999, 3, -7499}};
            for (int[] each : sourceNumberDue) {
                leaves(each[2], 2, 0, 3, each[1], 55, 0, 0, each[0]);
            }
        });
        says("LIMIT: to what it has, but at least the number below 0, and at most its number.", () -> {
            int[][] hasNumberDue = {{5, 0, 0}, {-5, 0, 0}, {0, 0, 0}, {1000, 999, 999}, {-1000, 999, -999}, {999, 999, 999},
                {-999, 999, -999}, {998, 999, 998}, {2, 1, 1}, {1, 1, 1}, {-1, 1, -1}, {-2, 1, -1}};
            for (int[] each : hasNumberDue) {
                leaves(each[2], 3, 2, 0, each[1], 77, 0, each[0], 0);
            }
        });
    }

    private void termsOfValues() {
        in("Assets");
        says("The value of a version for what channels have: its constraints are done in their order;", () -> {
            Marionette m = new Marionette();
            m.addAsset();
            m.constrain(1, 0, 1, 0);
            m.constrain(0, 2, 0, 0);
            m.publish(0);
            m.constrain(0, 2, 0, 0);
            m.constrain(1, 0, 1, 0);
            m.publish(0);
            same("ADD, COPY", valueOf(0, 9, 4, 9, 0), () -> m.value(0, 1, 5, 4, 0, 0));
            same("COPY, ADD", valueOf(0, 9, 4, 5, 0), () -> m.value(0, 2, 5, 4, 0, 0));
        });
        says("then it is the remainder by 99991 of 31 times its content,", () -> {
            Marionette m = threeOrphans();
            m.content(999);
            m.publish(0);
            same("content 1", 31 + 9, () -> m.value(0, 1, 0, 0, 0, 0));
            same("content 999", 31 * 999 + 9, () -> m.value(0, 4, 0, 0, 0, 0));
            same("least of all", 31 + 10, () -> m.value(0, 1, -9999, -9999, -9999, -9999));
            // 31 and 100000 are once around at the number 40, and twice at 100031.
            same("just below once around", 99990, () -> m.value(0, 1, 0, -1, -1, -9));
            same("once around", 0, () -> m.value(0, 1, -40, 0, 0, 0));
            same("just beyond", 1, () -> m.value(0, 1, -39, 0, 0, 0));
            same("just below twice around", 99990, () -> m.value(0, 4, 9998, 9999, 9000, 3004));
            same("twice around", 0, () -> m.value(0, 4, 9999, 9999, 9000, 3004));
        });
        says("for each channel, 1 more than its number, times what it has and 10000,", () -> {
            Marionette m = threeOrphans();
            row("1 more in channel", c -> m.value(0, 1, c == 0 ? 1 : 0, c == 1 ? 1 : 0, c == 2 ? 1 : 0, c == 3 ? 1 : 0) - 40,
                1, 2, 3, 4);
            same("at -9999 each", 31 + 10, () -> m.value(0, 1, -9999, -9999, -9999, -9999));
            same("at 9999 each", (31 + 199990) % 99991, () -> m.value(0, 1, 9999, 9999, 9999, 9999));
        });
        says("for each parent, 7 times 1 more than its place, times the value of the parent for what channels have by then,"
            + " all together.", this::valuesOfParents);
    }

    private void valuesOfParents() {
        Marionette m = threeOrphans();
        m.constrain(0, 0, 3, 0);
        m.parent(0, 1);
        m.parent(0, 2);
        m.parent(0, 2);
        m.publish(0);
        m.content(999);
        m.publish(0);
        long due = 31 * 0 + valueOf(0, 6, 1, 2, 6) + 7 * valueOf(1, 6, 1, 2, 6) + 14 * valueOf(20, 6, 1, 2, 6)
            + 21 * valueOf(20, 6, 1, 2, 6);
        same("behind its own constraints", due % 99991, () -> m.value(0, 4, 5, 1, 2, 6));
        Marionette high = new Marionette();
        high.addAsset();
        long value = 0;
        for (int version = 1; version <= 4; version++) {
            high.content(999);
            if (version > 1) {
                for (int i = 0; i < 3; i++) {
                    high.parent(0, version - 1);
                }
            }
            high.publish(0);
            value = (31 * 999 + 199990 + (7 + 14 + 21) * value) % 99991;
        }
        long last = value;
        same("three parents each, the height 4", last, () -> high.value(0, 4, 9999, 9999, 9999, 9999));
    }

    private void termsOfApprovals() {
        in("Assets");
        says("A version can be retracted, which stays so.", () -> {
            Marionette m = Stories.busy();
            m.retract(0, 4);
            same("retracted", 1, () -> m.version(0, 4, 4));
            m.publish(2);
            m.retract(0, 3);
            m.tick(3);
            same("still retracted", 1, () -> m.version(0, 4, 4));
            refused(STATE, Stories.with(BUSY, x -> x.retract(0, 4)), x -> x.retract(0, 4));
        });
        says("It can be approved, if it is not retracted, and all its parents are approved.", () -> {
            Marionette m = Stories.with(THREE_PARENTS, x -> x.publish(2)).make();
            no("with all parents approved", m.approve(2, 1));
            refused(STATE, BUSY, x -> x.approve(1, 2));
            refused(STATE, BUSY, x -> x.approve(1, 3));
            for (int missing = 1; missing <= 3; missing++) {
                int not = missing;
                refused(STATE, () -> childOfThree(not), x -> x.approve(0, 4));
            }
            no("without parents", Stories.with(EMPTY, x -> {
                x.addAsset();
                x.publish(0);
            }).make().approve(0, 1));
        });
        says("When it is retracted, the approvals of it, of all versions that have it as a parent, or a parent of these,"
            + " and so on, and of all shots that pin one of these, fall.", this::approvalsThatFall);
    }

    /** Version 4 with the parents 1, 2 and 3, of which one is not approved. */
    private static Marionette childOfThree(int notApproved) {
        Marionette m = threeOrphans();
        for (int version = 1; version <= 3; version++) {
            m.parent(0, version);
            if (version != notApproved) {
                m.approve(0, version);
            }
        }
        m.publish(0);
        return m;
    }

    private void approvalsThatFall() {
        int[][] approvedThen = {{0, 0, 0, 0}, {1, 0, 0, 0}, {1, 1, 0, 0}, {1, 1, 1, 0}};
        int[][] shotsThen = {{0, 0}, {0, 0}, {0, 1}, {0, 1}};
        int[] fallen = {6, 5, 3, 2};
        for (int version = 1; version <= 4; version++) {
            Marionette m = Stories.busy();
            int retracted = version;
            same("with the version " + version, fallen[version - 1], () -> m.retract(0, retracted));
            row("approved, by the version less 1,", n -> m.version(0, n + 1, 5), asLongs(approvedThen[version - 1]));
            row("approved shot", s -> m.shot(s, 4), asLongs(shotsThen[version - 1]));
            same("of another asset", 1, () -> m.version(1, 1, 5));
            row("retracted, by the version less 1,", n -> m.version(0, n + 1, 4), retracted == 1 ? 1 : 0, retracted == 2 ? 1 : 0);
        }
    }

    private static long[] asLongs(int... numbers) {
        return Arrays.stream(numbers).asLongStream().toArray();
    }

    private void newObject() {
        in("Promise 1: A new object");
        says("No assets, shots and machines;", () -> {
            refused(INDEX, EMPTY, m -> m.versions(0));
            refused(INDEX, EMPTY, m -> m.shot(0, 0));
            refused(INDEX, EMPTY, m -> m.machine(0, 0));
            refused(INDEX, EMPTY, m -> m.placeOf(0));
            refused(INDEX, EMPTY, m -> m.delivered(0, 0));
            same("the first asset", 0, () -> new Marionette().addAsset());
            same("the first shot", 0, () -> new Marionette().addShot(1));
            same("the first machine", 0, () -> new Marionette().addMachine(1, 0));
        });
        says("an empty draft and cache.", () -> {
            Marionette m = new Marionette();
            m.addAsset();
            m.publish(0);
            versionIs("the empty draft", m, 0, 1, 0, 1, 0, 0, 0, 0);
            row("count", m::count, 0, 0, 0, 0, 0, 0, 200, 0);
        });
    }

    private void addAsset() {
        in("Promise 2: addAsset");
        says("Adds an asset.", () -> {
            refused(INDEX, BUSY, m -> m.versions(3));
            Marionette m = Stories.busy();
            m.addAsset();
            same("it has no versions", 0, () -> m.versions(3));
            same("but takes them", 1, () -> m.publish(3));
            same("the others have theirs", 4, () -> m.versions(0));
        });
        says("Returns its number.", () -> row("asset", n -> Stories.with(EMPTY, m -> Stories.times(n, m::addAsset)).make()
            .addAsset(), 0, 1, 2, 3, 4, 5, 6, 7, 8, 9));
        says("Throws `IllegalStateException` if there are 10", () -> {
            refused(STATE, TEN_ASSETS, m -> m.addAsset());
            refused(STATE, Stories.with(EMPTY, m -> Stories.times(10, m::addAsset)), m -> m.addAsset());
        });
    }

    private void content() {
        in("Promise 3: content");
        says("Sets the content of the draft.", () -> {
            Marionette m = Stories.busy();
            m.content(5);
            m.content(431);
            m.publish(2);
            same("the last one counts", 431, () -> m.version(2, 1, 0));
            same("no other version has it", 400, () -> m.version(0, 4, 0));
        });
        says("- `content`: 0 to 999", () -> bounds(ARGUMENT, BUSY, 0, 999, (m, c) -> m.content(c)));
        says("Returns the content before.", () -> {
            Marionette m = new Marionette();
            same("at first", 0, () -> m.content(999));
            same("the greatest", 999, () -> m.content(999));
            same("the same again", 999, () -> m.content(1));
            same("a small one", 1, () -> m.content(0));
            same("the least", 0, () -> m.content(6));
            m.addAsset();
            m.publish(0);
            same("of the empty draft", 0, () -> m.content(0));
        });
        says("Throws `IllegalArgumentException` if content is out of range", () -> {
            refuses(ARGUMENT, EMPTY, (m, c) -> m.content(c), -1, 1000, LEAST, MOST);
            Marionette m = Stories.with(BUSY, x -> Stories.times(1, () -> x.content(999))).make();
            same("what stayed", 999, () -> m.content(0));
        });
    }

    private void constrain() {
        in("Promise 4: constrain");
        says("Adds a constraint to the draft.", () -> {
            Marionette m = new Marionette();
            m.addAsset();
            m.constrain(0, 0, 3, 0);
            m.constrain(1, 0, 3, 0);
            m.publish(0);
            versionIs("two", m, 0, 1, 0, 1, 2, 0);
            same("behind those that were there", valueOf(0, 18, 0, 0, 9), () -> m.value(0, 1, 1, 0, 0, 9));
        });
        says("- `kind`: 0 COPY, 1 ADD, 2 SCALE, 3 LIMIT", () -> {
            bounds(ARGUMENT, BUSY, 0, 3, (m, kind) -> m.constrain(kind, 0, 1, 0));
            leaves(9, 0, 0, 1, 0, 5, 9, 0, 0);
            leaves(14, 1, 0, 1, 0, 5, 9, 0, 0);
            leaves(4, 2, 0, 1, 2, 5, 9, 0, 0);
            leaves(2, 3, 0, 1, 2, 5, 9, 0, 0);
        });
        says("- `target`: 0 to 3", () -> {
            for (int kind = 0; kind < 4; kind++) {
                int of = kind;
                bounds(INDEX, BUSY, 0, 3, (m, target) -> m.constrain(of, target, 1, 0));
            }
        });
        says("- `source`: 0 to 3; for LIMIT it does not matter which", () -> {
            for (int kind = 0; kind < 4; kind++) {
                int of = kind;
                bounds(INDEX, BUSY, 0, 3, (m, source) -> m.constrain(of, 1, source, 0));
            }
            for (int source = 0; source < 4; source++) {
                leaves(30, 3, 1, source, 30, 1, 40, 5, -100);
            }
        });
        says("- `number`: -8 to 8 for SCALE; 0 to 999 for LIMIT; 0 for the others", () -> {
            bounds(ARGUMENT, BUSY, 0, 0, (m, number) -> m.constrain(0, 1, 2, number));
            bounds(ARGUMENT, BUSY, 0, 0, (m, number) -> m.constrain(1, 1, 2, number));
            bounds(ARGUMENT, BUSY, -8, 8, (m, number) -> m.constrain(2, 1, 2, number));
            bounds(ARGUMENT, BUSY, 0, 999, (m, number) -> m.constrain(3, 1, 2, number));
        });
        says("Returns how many constraints it has then.", () -> {
            Marionette m = new Marionette();
            row("constraints, less 1, for", n -> m.constrain(n % 4, 0, 0, 0) - 1, 0, 1, 2, 3, 4, 5);
            m.addAsset();
            m.publish(0);
            same("the draft is empty then", 1, () -> m.constrain(0, 0, 0, 0));
        });
        says("Throws `IndexOutOfBoundsException` if there is no such channel, of both", () -> {
            refused(INDEX, BUSY, m -> m.constrain(0, -1, 0, 0));
            refused(INDEX, BUSY, m -> m.constrain(0, 0, -1, 0));
            refused(INDEX, BUSY, m -> m.constrain(0, 4, 4, 0));
        });
        says("Throws `IllegalArgumentException` if kind or number is out of range", () -> {
            refused(ARGUMENT, BUSY, m -> m.constrain(4, 0, 0, 0));
            refused(ARGUMENT, BUSY, m -> m.constrain(4, 0, 0, 5));
            refused(ARGUMENT, BUSY, m -> m.constrain(0, 0, 0, 999));
            refused(ARGUMENT, BUSY, m -> m.constrain(2, 0, 0, 999));
            refused(ARGUMENT, BUSY, m -> m.constrain(3, 0, 0, -8));
        });
        says("Throws `IllegalStateException` if it has 6", () -> {
            takes(Stories.with(BUSY, m -> Stories.times(3, () -> m.constrain(0, 0, 0, 0))), (m, k) -> m.constrain(k, 0, 0, 0), 0, 3);
            for (int kind = 0; kind < 4; kind++) {
                int of = kind;
                refused(STATE, SIX_CONSTRAINTS, m -> m.constrain(of, 0, 0, 0));
            }
        });
    }

    private void parent() {
        in("Promise 5: parent");
        says("Adds a parent to the draft.", () -> {
            Marionette m = threeOrphans();
            m.parent(0, 3);
            m.parent(0, 1);
            m.publish(0);
            versionIs("two", m, 0, 4, 0, 2, 0, 2);
            long due = 100000 + 7 * valueOf(300, 0, 0, 0, 0) + 14 * valueOf(1, 0, 0, 0, 0);
            same("behind that which was there", due % 99991, () -> m.value(0, 4, 0, 0, 0, 0));
        });
        says("Returns how many parents it has then.", () -> {
            Marionette m = threeOrphans();
            row("parents, less 1, for", n -> m.parent(0, 1) - 1, 0, 1, 2);
            m.publish(0);
            same("the draft is empty then", 1, () -> m.parent(0, 1));
        });
        says("Throws `IndexOutOfBoundsException` if there is no such asset or version", () -> {
            takes(Stories.with(TEN_ASSETS, m -> Stories.times(6, () -> m.publish(9))), (m, v) -> m.parent(9, v), 2, 6);
            bounds(INDEX, BUSY, 0, 1, (m, asset) -> m.parent(asset, 1));
            refuses(INDEX, BUSY, (m, version) -> m.parent(0, version), 0, 5, -1, LEAST, MOST);
            takes(BUSY, (m, version) -> m.parent(0, version), 1, 3);
            refuses(INDEX, BUSY, (m, asset) -> m.parent(asset, 1), 2, 3);
        });
        says("Throws `IllegalStateException` if it has 3, or the version has the height 4", () -> {
            takes(Stories.with(BUSY, m -> m.parent(0, 1)), (m, v) -> m.parent(0, v), 1, 3);
            refuses(STATE, THREE_PARENTS, (m, v) -> m.parent(0, v), 1, 3, 4);
            refused(STATE, BUSY, m -> m.parent(0, 4));
            refused(STATE, Stories.with(BUSY, m -> m.publish(2)), m -> m.parent(2, 1));
            takes(BUSY, (m, v) -> m.parent(1, v), 2);
        });
    }

    private void publish() {
        in("Promise 6: publish");
        says("Makes the draft a version of an asset; it is empty then.", () -> {
            Marionette m = Stories.busy();
            m.publish(2);
            versionIs("made", m, 2, 1, 77, 4, 2, 1, 0, 0);
            m.publish(2);
            versionIs("empty", m, 2, 2, 0, 1, 0, 0, 0, 0);
            same("of that asset alone", 4, () -> m.versions(0));
        });
        says("Returns the version.", () -> {
            Marionette m = Stories.busy();
            row("of an asset without versions, less 1,", n -> m.publish(2) - 1, 0, 1, 2, 3, 4, 5);
            same("of one with 4", 5, () -> m.publish(0));
        });
        says("Throws `IndexOutOfBoundsException` if there is no such asset", () -> {
            bounds(INDEX, BUSY, 0, 2, (m, asset) -> m.publish(asset));
            bounds(INDEX, TEN_ASSETS, 0, 9, (m, asset) -> m.publish(asset));
            refuses(INDEX, EMPTY, (m, asset) -> m.publish(asset), 0, -1);
        });
        says("Throws `IllegalStateException` if it has 6, or a parent of the draft is retracted", () -> {
            refused(STATE, SIX_VERSIONS, m -> m.publish(2));
            takes(SIX_VERSIONS, (m, asset) -> m.publish(asset), 0, 1);
            for (int retracted = 1; retracted <= 3; retracted++) {
                int one = retracted;
                refuses(STATE, () -> draftOfThree(one), (m, asset) -> m.publish(asset), 0, 1);
            }
            takes(() -> draftOfThree(4), (m, asset) -> m.publish(asset), 0, 1);
        });
        says("a parent of the draft is retracted", () -> {
            Marionette m = Stories.busy();
            m.retract(0, 1);
            same("that of a parent does not count", 1, () -> m.publish(2));
        });
    }

    /** Two assets, and a draft with the parents 1, 2 and 3 of the first one, of whose versions one is retracted. */
    private static Marionette draftOfThree(int retracted) {
        Marionette m = threeOrphans();
        m.addAsset();
        m.publish(0);
        m.content(31);
        for (int version = 1; version <= 3; version++) {
            m.parent(0, version);
        }
        m.retract(0, retracted);
        return m;
    }

    private void retract() {
        in("Promise 7: retract");
        says("Retracts a version.", () -> {
            Marionette m = Stories.busy();
            m.retract(0, 2);
            row("retracted, by the version less 1,", n -> m.version(0, n + 1, 4), 0, 1, 0, 0);
            versionIs("else as it was", m, 0, 2, 200, 2, 1, 1, 1, 0);
        });
        says("Returns how many approvals, of versions and shots, fall.", () -> {
            same("none", 0, () -> Stories.busy().retract(1, 3));
            same("its own and that of a shot", 2, () -> Stories.busy().retract(1, 1));
            same("four versions and two shots", 6, () -> Stories.busy().retract(0, 1));
            Marionette m = allOnOne();
            same("as many as there can be", 65, () -> m.retract(0, 1));
            row("no shot is approved", s -> m.shot(s, 4), 0, 0, 0, 0, 0);
            same("no version is", 0, () -> m.version(9, 6, 5));
        });
        says("Throws `IndexOutOfBoundsException` if there is no such asset or version", () -> {
            bounds(INDEX, BUSY, 0, 1, (m, asset) -> m.retract(asset, 1));
            bounds(INDEX, BUSY, 1, 4, (m, version) -> m.retract(0, version));
            refuses(INDEX, BUSY, (m, asset) -> m.retract(asset, 1), 2, 3);
        });
        says("Throws `IllegalStateException` if it is retracted", () -> {
            refused(STATE, BUSY, m -> m.retract(1, 2));
            refused(STATE, Stories.with(BUSY, m -> m.retract(0, 1)), m -> m.retract(0, 1));
            same("its children are not", 0, () -> Stories.with(BUSY, m -> m.retract(0, 1)).make().retract(0, 2));
        });
    }

    /** Ten assets of six versions, and five shots, all approved, all of which stand on one version. */
    private static Marionette allOnOne() {
        Marionette m = new Marionette();
        for (int version = 0; version < 60; version++) {
            if (version % 6 == 0) {
                m.addAsset();
            }
            if (version > 0) {
                m.parent(0, 1);
            }
            m.publish(version / 6);
            m.approve(version / 6, version % 6 + 1);
        }
        for (int shot = 0; shot < 5; shot++) {
            m.addShot(1);
            m.pin(shot, 3 - shot % 4, 9 - shot, 6);
            m.approveShot(shot);
        }
        return m;
    }

    private void approve() {
        in("Promise 8: approve");
        says("Approves a version.", () -> {
            Marionette m = Stories.busy();
            m.publish(2);
            same("not yet", 0, () -> m.version(2, 1, 5));
            m.approve(2, 1);
            same("then", 1, () -> m.version(2, 1, 5));
            same("no other one", 0, () -> m.version(1, 3, 5));
        });
        says("Returns whether it was approved.", () -> {
            Marionette m = Stories.busy();
            m.publish(2);
            no("at first", m.approve(2, 1));
            yes("then", m.approve(2, 1));
            yes("again", m.approve(2, 1));
        });
        says("Throws `IndexOutOfBoundsException` if there is no such asset or version", () -> {
            bounds(INDEX, BUSY, 0, 1, (m, asset) -> m.approve(asset, 1));
            bounds(INDEX, BUSY, 1, 4, (m, version) -> m.approve(0, version));
            refuses(INDEX, BUSY, (m, asset) -> m.approve(asset, 1), 2, 3);
        });
        says("Throws `IllegalStateException` if it cannot be approved, be it already or not", () -> {
            refused(STATE, BUSY, m -> m.approve(1, 2));
            refused(STATE, BUSY, m -> m.approve(1, 3));
            Stories.Story fallen = Stories.with(BUSY, m -> m.retract(0, 2));
            refuses(STATE, fallen, (m, version) -> m.approve(0, version), 2, 3, 4);
            yes("the parent of a retracted one", fallen.make().approve(0, 1));
        });
    }

    private void versions() {
        in("Promise 27: versions");
        says("Returns how many versions an asset has.", () -> {
            Marionette m = SIX_VERSIONS.make();
            m.addAsset();
            row("versions of", m::versions, 4, 3, 6, 0);
        });
        says("Throws `IndexOutOfBoundsException` if there is no such asset", () -> {
            bounds(INDEX, BUSY, 0, 2, (m, asset) -> m.versions(asset));
            bounds(INDEX, TEN_ASSETS, 0, 9, (m, asset) -> m.versions(asset));
        });
    }

    private void version() {
        in("Promise 28: version");
        says("Tells of a version: 0 its content, 1 its height, 2 how many constraints, 3 how many parents it has,"
            + " 4 whether it is retracted (1 or 0), 5 whether it is approved.", () -> {
            Marionette m = Stories.busy();
            versionIs("approved", m, 0, 4, 400, 4, 1, 1, 0, 1);
            versionIs("retracted", m, 1, 2, 0, 1, 0, 0, 1, 0);
            versionIs("neither", m, 1, 3, 0, 2, 0, 1, 0, 0);
        });
        says("- `what`: 0 to 5", () -> bounds(ARGUMENT, BUSY, 0, 5, (m, what) -> m.version(0, 1, what)));
        says("Throws `IndexOutOfBoundsException` if there is no such asset or version", () -> {
            bounds(INDEX, BUSY, 0, 1, (m, asset) -> m.version(asset, 1, 0));
            bounds(INDEX, BUSY, 1, 4, (m, version) -> m.version(0, version, 0));
            refuses(INDEX, BUSY, (m, version) -> m.version(2, version, 0), 0, 1);
        });
        says("Throws `IllegalArgumentException` if what is out of range",
            () -> refuses(ARGUMENT, BUSY, (m, what) -> m.version(1, 2, what), -1, 6, LEAST, MOST));
    }

    private void value() {
        in("Promise 29: value");
        says("Returns the value of a version for channels.", () -> {
            Marionette m = threeOrphans();
            same("of the first", valueOf(1, 2, 30, 400, 5000), () -> m.value(0, 1, 2, 30, 400, 5000));
            same("of the last", valueOf(300, -2, -30, -400, -5000), () -> m.value(0, 3, -2, -30, -400, -5000));
            row("nothing is asked of the cache, count", m::count, 0, 0, 0, 0);
        });
        says("- `zero`: -9999 to 9999: what the channel 0 has, likewise one, two, three", () -> {
            bounds(ARGUMENT, BUSY, -9999, 9999, (m, zero) -> m.value(0, 1, zero, 0, 0, 0));
            bounds(ARGUMENT, BUSY, -9999, 9999, (m, one) -> m.value(0, 1, 0, one, 0, 0));
            bounds(ARGUMENT, BUSY, -9999, 9999, (m, two) -> m.value(0, 1, 0, 0, two, 0));
            bounds(ARGUMENT, BUSY, -9999, 9999, (m, three) -> m.value(0, 1, 0, 0, 0, three));
        });
        says("Throws `IndexOutOfBoundsException` if there is no such asset or version", () -> {
            bounds(INDEX, BUSY, 0, 1, (m, asset) -> m.value(asset, 1, 0, 0, 0, 0));
            bounds(INDEX, BUSY, 1, 4, (m, version) -> m.value(0, version, 0, 0, 0, 0));
        });
        says("Throws `IllegalArgumentException` if a channel is out of range", () -> {
            refused(ARGUMENT, BUSY, m -> m.value(0, 1, 10000, 10000, 10000, 10000));
            refused(ARGUMENT, BUSY, m -> m.value(0, 1, 0, 0, 0, -10000));
        });
    }
}
