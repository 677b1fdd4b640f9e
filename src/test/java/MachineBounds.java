/** The promises 18 to 22, and 34 to 38. */
final class MachineBounds extends Bounds {
    private static final Stories.Story EMPTY = Stories::empty;
    private static final Stories.Story BUSY = Stories::busy;
    private static final Stories.Story FIVE_SHOTS = Stories.with(BUSY, m -> Stories.times(3, () -> m.addShot(16)));
    private static final Stories.Story FOUR_MACHINES = Stories.with(BUSY, m -> Stories.times(2, () -> m.addMachine(3, 0)));

    MachineBounds(Sentences sentences, Check check) {
        super(sentences, check);
    }

    @Override
    void all() {
        addMachine();
        setDisk();
        render();
        dropImages();
        tick();
        stored();
        isCurrent();
        where();
        machine();
        count();
    }

    private void boundsOfShots(NumberAct act) {
        bounds(INDEX, BUSY, 0, 1, act);
        bounds(INDEX, FIVE_SHOTS, 0, 4, act);
        refuses(INDEX, EMPTY, act, 0, -1);
    }

    private interface PlaceAct {
        void on(Marionette m, int shot, int place);
    }

    private void boundsOfPlaces(PlaceAct act) {
        boundsOfShots((m, shot) -> act.on(m, shot, 0));
        bounds(INDEX, BUSY, 0, 4, (m, place) -> act.on(m, 0, place));
        bounds(INDEX, FIVE_SHOTS, 0, 15, (m, place) -> act.on(m, 4, place));
        bounds(INDEX, Stories.with(BUSY, m -> m.cut(0, 1, 4)), 0, 0, (m, place) -> act.on(m, 0, place));
    }

    private void addMachine() {
        in("Promise 18: addMachine");
        says("Adds a machine.", () -> {
            Marionette m = Stories.busy();
            m.addMachine(3, 0);
            row("it has no frame, what", what -> m.machine(2, what), -1, -1, 0);
            m.tick(1);
            row("it takes the first of the queue, what", what -> m.machine(2, what), 0, 4, 1);
        });
        says("- `speed`: 1 to 3", () -> {
            bounds(ARGUMENT, BUSY, 1, 3, (m, speed) -> m.addMachine(speed, 0));
            row("the ticks for two pins by the speed, less 1,", n -> {
                Marionette m = Stories.busy();
                m.addMachine(1 + n, 0);
                m.tick(1);
                return m.machine(2, 2);
            }, 3, 2, 1);
        });
        says("- `weakness`: 0 to 6", () -> {
            bounds(ARGUMENT, BUSY, 0, 6, (m, weakness) -> m.addMachine(1, weakness));
            // By 7 the first try of the name n is 5 times n and 3: 3, 1, 6, 4, 2, 0, 5.
            row("how many of seven frames fail at the weakness", weakness -> {
                Marionette m = new Marionette();
                m.addShot(7);
                m.addMachine(1, weakness);
                m.render(0);
                m.tick(8);
                return m.count(4);
            }, 0, 1, 2, 3, 4, 5, 6);
        });
        says("Returns its number.", () -> {
            Marionette m = new Marionette();
            row("machine", n -> m.addMachine(1 + n % 3, 6 - n), 0, 1, 2, 3);
        });
        says("Throws `IllegalArgumentException` if speed or weakness is out of range", () -> {
            refuses(ARGUMENT, EMPTY, (m, speed) -> m.addMachine(speed, 0), 0, 4);
            refuses(ARGUMENT, EMPTY, (m, weakness) -> m.addMachine(1, weakness), -1, 7);
            refused(ARGUMENT, FOUR_MACHINES, m -> m.addMachine(0, 7));
        });
        says("Throws `IllegalStateException` if there are 4", () -> {
            refuses(STATE, FOUR_MACHINES, (m, speed) -> m.addMachine(speed, 0), 1, 3);
            same("the fourth", 3, () -> Stories.with(BUSY, m -> m.addMachine(1, 0)).make().addMachine(1, 0));
        });
    }

    private void setDisk() {
        in("Promise 19: setDisk");
        says("Sets what the disk has; what is beyond it stays.", () -> {
            Marionette m = Stories.busy();
            m.setDisk(0);
            same("beyond it", -20, () -> m.count(6));
            same("an image stays", m.image(0, 0), () -> m.stored(0, 0));
            same("and the others", m.image(1, 1), () -> m.stored(1, 1));
            m.setDisk(100);
            same("left then", 80, () -> m.count(6));
        });
        says("- `room`: 0 to 999", () -> bounds(ARGUMENT, BUSY, 0, 999, (m, room) -> m.setDisk(room)));
        says("Returns what it had.", () -> {
            Marionette m = new Marionette();
            same("at first", 200, () -> m.setDisk(999));
            same("the greatest", 999, () -> m.setDisk(0));
            same("the least", 0, () -> m.setDisk(0));
            same("with images", 27, () -> Stories.busy().setDisk(5));
        });
        says("Throws `IllegalArgumentException` if room is out of range",
            () -> refuses(ARGUMENT, EMPTY, (m, room) -> m.setDisk(room), -1, 1000, LEAST, MOST));
    }

    private void render() {
        in("Promise 20: render");
        says("Renders a shot.", () -> {
            Marionette m = Stories.busy();
            m.dropImages(1);
            m.render(1);
            row("in the queue, at", place -> m.where(1, place), 1, 1);
            row("the other shot as before, at", place -> m.where(0, place), 0, 1, 10, 11, 1);
        });
        says("Returns how many frames are put into the queue.", () -> {
            Marionette m = Stories.busy();
            same("none: one is current, the others are there", 0, () -> m.render(0));
            same("none: all are current", 0, () -> m.render(1));
            m.setLook(1, 0, 1);
            same("two that are not current", 2, () -> m.render(1));
            m.addShot(16);
            same("sixteen that are not stored", 16, () -> m.render(2));
            same("in the queue", 20, () -> m.count(0));
        });
        says("how many frames are put into the queue.", () -> {
            Marionette m = new Marionette();
            for (int shot = 0; shot < 5; shot++) {
                int of = shot;
                m.addShot(16);
                same("all of shot " + shot, 16, () -> m.render(of));
            }
            same("all that there can be", 80, () -> m.count(0));
            same("none again", 0, () -> m.render(4));
            m.cut(2, 0, 15);
            m.insert(2, 0, 15);
            same("new ones in place of those that were cut", 15, () -> m.render(2));
            same("all again", 80, () -> m.count(0));
        });
        says("Throws `IndexOutOfBoundsException` if there is no such shot", () -> boundsOfShots((m, shot) -> m.render(shot)));
    }

    private void dropImages() {
        in("Promise 21: dropImages");
        says("Drops all images of a shot that are stored.", () -> {
            Marionette m = Stories.busy();
            m.dropImages(1);
            row("none is left, at", place -> m.stored(1, place), -1, -1);
            same("no one is current", 0, () -> m.isCurrent(1, 0) ? 1 : 0);
            same("the disk has more", 15, () -> m.count(6));
            same("the other shot has its own", m.image(0, 0), () -> m.stored(0, 0));
            row("the queue and the machines are as before, at", place -> m.where(0, place), 0, 1, 10, 11, 1);
            Marionette last = Stories.busy();
            last.move(0, 0, 1, 4);
            same("one behind others without any", 1, () -> last.dropImages(0));
            same("it is gone", -1, () -> last.stored(0, 4));
            same("the disk has 12 more", 19, () -> last.count(6));
        });
        says("Returns how many.", () -> {
            Marionette m = Stories.busy();
            same("one", 1, () -> m.dropImages(0));
            same("none", 0, () -> m.dropImages(0));
            same("two", 2, () -> m.dropImages(1));
            same("also those that are not current", 2, () -> Stories.with(BUSY, x -> x.setLook(1, 2, 4)).make().dropImages(1));
            same("without any", 0, () -> FIVE_SHOTS.make().dropImages(4));
        });
        says("Throws `IndexOutOfBoundsException` if there is no such shot",
            () -> boundsOfShots((m, shot) -> m.dropImages(shot)));
    }

    private void tick() {
        in("Promise 22: tick");
        says("Lets ticks pass.", () -> {
            Marionette m = Stories.busy();
            m.tick(1);
            same("one", 1, () -> m.machine(1, 2));
            Marionette once = Stories.with(BUSY, x -> x.setDisk(999)).make();
            Marionette often = Stories.with(BUSY, x -> x.setDisk(999)).make();
            int stored = once.tick(30);
            int sum = 0;
            for (int i = 0; i < 30; i++) {
                sum += often.tick(1);
            }
            int all = sum;
            same("thirty as thirty times one", all, () -> stored);
            row("count", once::count, often.count(0), often.count(1), often.count(2), often.count(3), often.count(4),
                often.count(5), often.count(6));
        });
        says("- `ticks`: 1 to 30", () -> bounds(ARGUMENT, BUSY, 1, 30, (m, ticks) -> m.tick(ticks)));
        says("Returns how many images were stored by that.", () -> {
            same("without machines", 0, () -> Stories.with(EMPTY, x -> {
                x.addShot(2);
                x.render(0);
            }).make().tick(30));
            Marionette m = new Marionette();
            m.addShot(16);
            m.addMachine(1, 0);
            same("without a queue", 0, () -> m.tick(30));
            m.render(0);
            same("the first one is taken", 0, () -> m.tick(1));
            same("one at each tick", 1, () -> m.tick(1));
            same("five in five", 5, () -> m.tick(5));
            same("the last ones", 10, () -> m.tick(30));
            same("no more", 0, () -> m.tick(30));
            Marionette four = new Marionette();
            four.addShot(16);
            Stories.times(4, () -> four.addMachine(1, 0));
            four.render(0);
            four.tick(1);
            same("four at a tick", 4, () -> four.tick(1));
        });
        says("Throws `IllegalArgumentException` if ticks is out of range",
            () -> refuses(ARGUMENT, EMPTY, (m, ticks) -> m.tick(ticks), 0, 31, -1, LEAST, MOST));
    }

    private void stored() {
        in("Promise 34: stored");
        says("Returns the image of a place that is stored.", () -> {
            Marionette m = Stories.busy();
            long before = m.image(0, 0);
            m.key(0, 0, 0, 0, 3);
            same("as it was made", before, () -> m.stored(0, 0));
            m.move(0, 0, 1, 4);
            same("moved", before, () -> m.stored(0, 4));
            m.insert(0, 0, 1);
            same("moved on", before, () -> m.stored(0, 5));
        });
        says("Returns the image; -1 if none is stored.", () -> {
            Marionette m = Stories.busy();
            row("none, behind the first one", place -> m.stored(0, place + 1), -1, -1, -1, -1);
            Marionette zero = new Marionette();
            zero.addShot(1);
            zero.addMachine(1, 0);
            zero.render(0);
            zero.tick(2);
            same("0 is an image", 0, () -> zero.stored(0, 0));
            zero.dropImages(0);
            same("none", -1, () -> zero.stored(0, 0));
        });
        says("Throws `IndexOutOfBoundsException` if there is no such shot or place",
            () -> boundsOfPlaces((m, shot, place) -> m.stored(shot, place)));
    }

    private void isCurrent() {
        in("Promise 35: isCurrent");
        says("Tells whether an image of a place is stored, and current.", () -> {
            Marionette m = Stories.busy();
            row("one is stored, at", place -> m.isCurrent(0, place) ? 1 : 0, 1, 0, 0, 0, 0);
            m.setLook(0, 1, 1);
            no("stored, and not current", m.isCurrent(0, 0));
            m.setLook(0, 0, 1);
            yes("current again", m.isCurrent(0, 0));
            m.dropImages(0);
            no("not stored", m.isCurrent(0, 0));
            m.insert(1, 0, 1);
            row("a new frame has none, at", place -> m.isCurrent(1, place) ? 1 : 0, 0, 1, 1);
        });
        says("Throws `IndexOutOfBoundsException` if there is no such shot or place",
            () -> boundsOfPlaces((m, shot, place) -> m.isCurrent(shot, place)));
    }

    private void where() {
        in("Promise 36: where");
        says("Returns where a frame is to be rendered.", () -> {
            Marionette m = Stories.busy();
            row("of each kind, at", place -> m.where(0, place), 0, 1, 10, 11, 1);
            row("of the other shot, at", place -> m.where(1, place), 0, 0);
        });
        says("Returns 0 nowhere, 1 in the queue, 10 and the machine, together.", () -> {
            Marionette m = new Marionette();
            m.addShot(6);
            Stories.times(4, () -> m.addMachine(1, 0));
            row("nowhere, at", place -> m.where(0, place), 0, 0, 0, 0, 0, 0);
            m.render(0);
            row("in the queue, at", place -> m.where(0, place), 1, 1, 1, 1, 1, 1);
            m.tick(1);
            row("on the machines, at", place -> m.where(0, place), 10, 11, 12, 13, 1, 1);
            m.tick(1);
            row("stored, at", place -> m.where(0, place), 0, 0, 0, 0, 10, 11);
            m.tick(1);
            row("all stored, at", place -> m.where(0, place), 0, 0, 0, 0, 0, 0);
        });
        says("Throws `IndexOutOfBoundsException` if there is no such shot or place",
            () -> boundsOfPlaces((m, shot, place) -> m.where(shot, place)));
    }

    private void machine() {
        in("Promise 37: machine");
        says("Tells of a machine: 0 the shot of its frame, 1 the name of it, -1 each for none, 2 the ticks that are left.", () -> {
            Marionette m = Stories.busy();
            row("one that waits, what", what -> m.machine(0, what), 0, 2, 0);
            row("one that works, what", what -> m.machine(1, what), 0, 3, 2);
            m.addMachine(1, 0);
            row("one without a frame, what", what -> m.machine(2, what), -1, -1, 0);
            m.setDisk(999);
            m.render(1);
            m.setLook(1, 0, 1);
            m.tick(30);
            m.render(1);
            m.tick(1);
            row("the other shot, what", what -> m.machine(0, what), 1, 0, 2);
            m.insert(1, 0, 1);
            row("the name, not the place, what", what -> m.machine(0, what), 1, 0, 2);
        });
        says("- `what`: 0 to 2", () -> bounds(ARGUMENT, BUSY, 0, 2, (m, what) -> m.machine(0, what)));
        says("Throws `IndexOutOfBoundsException` if there is no such machine", () -> {
            bounds(INDEX, BUSY, 0, 1, (m, machine) -> m.machine(machine, 0));
            bounds(INDEX, FOUR_MACHINES, 0, 3, (m, machine) -> m.machine(machine, 2));
            refuses(INDEX, EMPTY, (m, machine) -> m.machine(machine, 0), 0, -1);
        });
        says("Throws `IllegalArgumentException` if what is out of range",
            () -> refuses(ARGUMENT, FOUR_MACHINES, (m, what) -> m.machine(3, what), -1, 3, LEAST, MOST));
    }

    private void count() {
        in("Promise 38: count");
        says("Counts: 0 frames in the queue, 1 hits, 2 makings, 3 values that the cache has, 4 tries that failed,"
            + " 5 frames that were given up, 6 what the disk has left, perhaps below 0, 7 deliveries that are kept.", () -> {
            Marionette m = Stories.busy();
            row("count", m::count, 2, 2, 8, 8, 2, 0, 7, 1);
            m.close(3);
            m.deliver(1, 1);
            m.setDisk(3);
            m.addShot(3);
            m.render(2);
            row("then, count", m::count, 5, 2, 8, 8, 2, 0, -17, 2);
            Marionette weak = new Marionette();
            weak.addShot(2);
            weak.addMachine(1, 5);
            weak.render(0);
            weak.tick(30);
            // By 7 the tries are 3 and 6 of the name 0, and 1, 4 and 0 of the name 1.
            row("one given up, count", weak::count, 0, 0, 0, 0, 4, 1, 188, 0);
            row("nothing yet, count", new Marionette()::count, 0, 0, 0, 0, 0, 0, 200, 0);
        });
        says("- `what`: 0 to 7", () -> bounds(ARGUMENT, BUSY, 0, 7, (m, what) -> m.count(what)));
        says("Throws `IllegalArgumentException` if what is out of range",
            () -> refuses(ARGUMENT, EMPTY, (m, what) -> m.count(what), -1, 8, LEAST, MOST));
    }
}
