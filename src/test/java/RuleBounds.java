/** What the document says of all calls: their exceptions, and how many calls there are. */
final class RuleBounds extends Bounds {
    private static final Stories.Story BUSY = Stories::busy;
    /** All that can be full is full: each call that can be refused for that is. */
    private static final Stories.Story FULL = Stories.with(BUSY, RuleBounds::fill);
    private static final Stories.Story ONE_FRAME = Stories.with(BUSY, m -> m.cut(1, 0, 1));

    RuleBounds(Sentences sentences, Check check) {
        super(sentences, check);
    }

    @Override
    void all() {
        in("What it is");
        says("An object is used for at most 512 calls after it has been made", this::fiveHundredAndTwelveCalls);
        in("Notes, hours, deliveries");
        says("A call that throws an exception changes nothing.", this::refusedCallsInARow);
        says("If several exceptions apply, the one that is named first in the throws clause is thrown.", () -> {
            severalOfAssets();
            severalOfShots();
            severalOfEdits();
            severalOfTheRest();
        });
        says("A method that takes an asset, a version, a shot, a slot, a channel, a place, a machine, a note or a delivery throws"
            + " IndexOutOfBoundsException if there is no such one.", this::noSuchOne);
    }

    private static void fill(Marionette m) {
        m.close(0);
        m.close(3);
        Stories.times(19, () -> m.deliver(1, 1));
        Stories.times(7, m::addAsset);
        Stories.times(4, () -> m.constrain(1, 0, 1, 0));
        Stories.times(2, () -> m.parent(0, 1));
        Stories.times(3, () -> m.addShot(16));
        for (int i = 0; i < 17; i++) {
            m.key(0, 1, i / 5, i % 5, i);
        }
        m.insert(0, 5, 11);
        m.approveShot(0);
        Stories.times(2, () -> m.addMachine(1, 0));
        Stories.times(26, () -> m.note(1, 0, 2));
        m.retract(0, 3);
    }

    private void fiveHundredAndTwelveCalls() {
        Marionette m = new Marionette();
        for (int call = 1; call <= 511; call++) {
            m.content(call);
        }
        same("the 512th call", 511, () -> m.content(0));
        Marionette ticks = new Marionette();
        ticks.addShot(16);
        ticks.addMachine(1, 0);
        ticks.setDisk(0);
        ticks.render(0);
        for (int call = 5; call <= 511; call++) {
            ticks.tick(30);
        }
        same("the 512th call of a studio that waits", 15, () -> ticks.count(0));
        Marionette cuts = new Marionette();
        cuts.addShot(1);
        for (int call = 2; call <= 509; call += 2) {
            cuts.insert(0, 1, 15);
            cuts.cut(0, 1, 15);
        }
        same("the 510th call, an edit", 16, () -> cuts.insert(0, 1, 15));
        same("the 511th call: names go on", 254 * 15 + 15, () -> cuts.frame(0, 15));
        same("the 512th call, an edit", 1, () -> cuts.cut(0, 1, 15));
    }

    /** Each of these is refused, one behind the other, on one object. */
    private void refusedCallsInARow() {
        Stories.Act[] calls = {
            m -> m.addAsset(), m -> m.content(1000), m -> m.constrain(0, 0, 0, 0), m -> m.parent(0, 1), m -> m.publish(0),
            m -> m.retract(0, 3), m -> m.approve(0, 3), m -> m.addShot(1), m -> m.pin(0, 0, 0, 3), m -> m.key(0, 3, 3, 15, 1),
            m -> m.dropKey(0, 3, 3, 15), m -> m.setLook(0, 3, 0), m -> m.insert(0, 0, 1), m -> m.cut(0, 0, 16),
            m -> m.move(0, 0, 16, 1), m -> m.approveShot(1), m -> m.addMachine(1, 1), m -> m.setDisk(-1), m -> m.render(5),
            m -> m.dropImages(5), m -> m.tick(0), m -> m.note(0, 0, 0), m -> m.close(30), m -> m.work(0, 0, 100),
            m -> m.deliver(1, 1), m -> m.versions(10), m -> m.version(0, 1, 6), m -> m.value(0, 1, 10000, 0, 0, 0),
            m -> m.shot(0, 8), m -> m.frame(0, 16), m -> m.channel(0, 0, 4, 0), m -> m.image(0, 16), m -> m.stored(0, 16),
            m -> m.isCurrent(0, 16), m -> m.where(0, 16), m -> m.machine(4, 0), m -> m.count(8), m -> m.placeOf(30),
            m -> m.delivered(20, 0)};
        int refused = 0;
        Marionette counted = FULL.make();
        for (Stories.Act call : calls) {
            refused += isRefused(call, counted) ? 1 : 0;
        }
        int all = refused;
        same("calls that are refused", 39, () -> all);
        same("nothing has changed", 0, () -> {
            String found = Twins.difference(FULL, m -> {
                for (Stories.Act call : calls) {
                    isRefused(call, m);
                }
            });
            if (!found.isEmpty()) {
                System.out.println(found);
            }
            return found.length();
        });
    }

    private static boolean isRefused(Stories.Act call, Marionette m) {
        try {
            call.on(m);
            return false;
        } catch (RuntimeException e) {
            return true;
        }
    }

    private void severalOfAssets() {
        refused(INDEX, FULL, m -> m.constrain(4, 4, 0, 9));
        refused(INDEX, FULL, m -> m.constrain(0, 0, 4, 0));
        refused(INDEX, BUSY, m -> m.constrain(-1, -1, -1, 1000));
        refused(ARGUMENT, FULL, m -> m.constrain(4, 0, 0, 0));
        refused(ARGUMENT, FULL, m -> m.constrain(0, 0, 0, 1));
        refused(STATE, FULL, m -> m.constrain(0, 0, 0, 0));
        refused(INDEX, FULL, m -> m.parent(10, 1));
        refused(INDEX, FULL, m -> m.parent(0, 5));
        refused(STATE, FULL, m -> m.parent(0, 4));
        refused(INDEX, FULL, m -> m.publish(10));
        refused(STATE, FULL, m -> m.publish(0));
        refused(INDEX, FULL, m -> m.version(0, 5, 6));
        refused(INDEX, FULL, m -> m.version(10, 1, -1));
        refused(ARGUMENT, FULL, m -> m.version(0, 4, 6));
        refused(INDEX, FULL, m -> m.value(0, 5, 10000, 0, 0, 0));
        refused(INDEX, FULL, m -> m.value(-1, 1, 0, 0, 0, -10000));
        refused(ARGUMENT, FULL, m -> m.value(0, 4, 0, 0, 0, -10000));
    }

    private void severalOfShots() {
        refused(ARGUMENT, FULL, m -> m.addShot(0));
        refused(STATE, FULL, m -> m.addShot(1));
        refused(INDEX, FULL, m -> m.pin(5, 0, 0, 3));
        refused(INDEX, FULL, m -> m.pin(0, 4, 0, 3));
        refused(STATE, FULL, m -> m.pin(0, 0, 0, 3));
        refused(INDEX, FULL, m -> m.key(5, 0, 0, 0, 10000));
        refused(INDEX, FULL, m -> m.key(0, 4, 0, 0, 10000));
        refused(INDEX, FULL, m -> m.key(0, 0, 4, 0, 1));
        refused(INDEX, FULL, m -> m.key(0, 0, 0, 16, 10000));
        refused(ARGUMENT, FULL, m -> m.key(0, 3, 3, 0, 10000));
        refused(STATE, FULL, m -> m.key(0, 3, 3, 0, 9999));
        refused(INDEX, FULL, m -> m.dropKey(5, 3, 3, 0));
        refused(INDEX, FULL, m -> m.dropKey(0, 4, 3, 0));
        refused(INDEX, FULL, m -> m.dropKey(0, 3, 4, 0));
        refused(INDEX, FULL, m -> m.dropKey(0, 3, 3, 16));
        refused(STATE, FULL, m -> m.dropKey(0, 3, 3, 15));
        refused(INDEX, FULL, m -> m.setLook(5, 3, 5));
        refused(ARGUMENT, FULL, m -> m.setLook(4, 3, 5));
        refused(INDEX, FULL, m -> m.approveShot(5));
        refused(STATE, FULL, m -> m.approveShot(4));
        refused(INDEX, FULL, m -> m.shot(5, 8));
        refused(ARGUMENT, FULL, m -> m.shot(4, 8));
    }

    private void severalOfEdits() {
        refused(INDEX, FULL, m -> m.insert(5, 0, 17));
        refused(INDEX, FULL, m -> m.insert(0, 17, 17));
        refused(INDEX, FULL, m -> m.insert(0, 17, 1));
        refused(ARGUMENT, FULL, m -> m.insert(0, 16, 17));
        refused(STATE, FULL, m -> m.insert(0, 16, 16));
        refused(INDEX, ONE_FRAME, m -> m.cut(2, 0, 1));
        refused(INDEX, ONE_FRAME, m -> m.cut(1, 1, 0));
        refused(INDEX, ONE_FRAME, m -> m.cut(1, 1, 1));
        // Two are not so many, and no frame would be left.
        refused(ARGUMENT, ONE_FRAME, m -> m.cut(1, 0, 2));
        refused(ARGUMENT, ONE_FRAME, m -> m.cut(1, 0, 0));
        refused(STATE, ONE_FRAME, m -> m.cut(1, 0, 1));
        refused(INDEX, FULL, m -> m.move(5, 0, 0, -1));
        refused(INDEX, FULL, m -> m.move(0, 16, 0, -1));
        refused(INDEX, FULL, m -> m.move(0, -1, 17, 0));
        refused(ARGUMENT, FULL, m -> m.move(0, 0, 17, -1));
    }

    private void severalOfTheRest() {
        refused(ARGUMENT, FULL, m -> m.addMachine(4, 0));
        refused(ARGUMENT, FULL, m -> m.addMachine(1, 7));
        refused(STATE, FULL, m -> m.addMachine(3, 6));
        refused(INDEX, FULL, m -> m.note(5, 0, 3));
        refused(INDEX, FULL, m -> m.note(0, 16, 3));
        refused(INDEX, FULL, m -> m.note(0, 16, 0));
        refused(ARGUMENT, FULL, m -> m.note(0, 0, 3));
        refused(STATE, FULL, m -> m.note(0, 0, 2));
        refused(INDEX, FULL, m -> m.work(5, 1000, 100));
        refused(ARGUMENT, FULL, m -> m.work(4, 1000, 100));
        refused(INDEX, FULL, m -> m.deliver(5, 3));
        refused(INDEX, FULL, m -> m.deliver(5, 0));
        refused(ARGUMENT, FULL, m -> m.deliver(4, 3));
        refused(STATE, FULL, m -> m.deliver(4, 0));
        refused(INDEX, FULL, m -> m.machine(4, 3));
        refused(ARGUMENT, FULL, m -> m.machine(3, 3));
        refused(INDEX, FULL, m -> m.delivered(20, -1));
        refused(ARGUMENT, FULL, m -> m.delivered(19, -1));
    }

    private void noSuchOne() {
        refuses(INDEX, FULL, (m, asset) -> m.versions(asset), -1, 10, LEAST, MOST);
        refuses(INDEX, FULL, (m, version) -> m.version(0, version, 0), 0, 5, LEAST, MOST);
        refuses(INDEX, FULL, (m, shot) -> m.render(shot), -1, 5, LEAST, MOST);
        refuses(INDEX, FULL, (m, slot) -> m.channel(0, slot, 0, 0), -1, 4, LEAST, MOST);
        refuses(INDEX, FULL, (m, channel) -> m.channel(0, 0, channel, 0), -1, 4, LEAST, MOST);
        refuses(INDEX, FULL, (m, place) -> m.frame(0, place), -1, 16, LEAST, MOST);
        refuses(INDEX, FULL, (m, machine) -> m.machine(machine, 0), -1, 4, LEAST, MOST);
        refuses(INDEX, FULL, (m, note) -> m.placeOf(note), -1, 30, LEAST, MOST);
        refuses(INDEX, FULL, (m, delivery) -> m.delivered(delivery, 0), -1, 20, LEAST, MOST);
    }
}
