import java.util.ArrayList;
import java.util.List;

/** "The cache" and "Rendering" of the terms. */
final class RenderTerms extends Bounds {
    private static final Stories.Story BUSY = Stories::busy;

    RenderTerms(Sentences sentences, Check check) {
        super(sentences, check);
    }

    @Override
    void all() {
        in("The cache");
        cache();
        cacheOfSixty();
        in("Rendering");
        machinesAndQueue();
        rendering();
        ticksLeft();
        tries();
        storing();
        waiting();
        taking();
        cutFrames();
        disk();
    }

    /** Version 1, version 2, and version 3 with both as parents; one frame that pins the first, a fast machine. */
    private static Marionette asker() {
        Marionette m = new Marionette();
        m.addAsset();
        m.content(1);
        m.publish(0);
        m.content(2);
        m.publish(0);
        m.parent(0, 1);
        m.parent(0, 2);
        m.publish(0);
        m.addShot(1);
        m.pin(0, 0, 0, 1);
        m.addMachine(3, 0);
        return m;
    }

    /** Lets the machine ask for the value of what slot 0 pins for a number in channel 0. */
    private static void ask(Marionette m, int number) {
        m.key(0, 0, 0, 0, number);
        m.dropImages(0);
        m.render(0);
        m.tick(3);
    }

    private static void ask(Marionette m, int version, int number) {
        m.pin(0, 0, 0, version);
        ask(m, number);
    }

    private void counts(String what, Marionette m, int hits, int makings, int size) {
        row(what + ": hits, makings and values, count 1 and", n -> m.count(1 + n), hits, makings, size);
    }

    private void cache() {
        says("The cache has values of versions for what channels have ahead of their constraints.", () -> {
            Marionette m = asker();
            m.constrain(3, 0, 0, 0);
            m.publish(0);
            ask(m, 4, 5);
            ask(m, 4, 6);
            counts("the same behind the constraints", m, 0, 2, 2);
            ask(m, 4, 5);
            counts("the same ahead of them", m, 1, 2, 2);
            ask(m, 1, 5);
            counts("another version", m, 1, 3, 3);
            for (int channel = 1; channel < 4; channel++) {
                m.key(0, 0, channel, 0, 1);
                ask(m, 1, 5);
                counts("another number in the channel " + channel, m, 1, 3 + channel, 3 + channel);
            }
        });
        says("To ask for one: if the cache has it, that is a hit;", () -> {
            Marionette m = asker();
            ask(m, 3, 0);
            counts("nothing there", m, 0, 3, 3);
            ask(m, 3, 0);
            counts("there, its parents not being asked for", m, 1, 3, 3);
            same("the value", m.image(0, 0), () -> m.stored(0, 0));
        });
        says("otherwise it is found, its parents being asked for in their order,", () -> {
            Marionette m = asker();
            ask(m, 3, 0);
            for (int number = 1; number <= 57; number++) {
                ask(m, 1, number);
            }
            counts("full", m, 0, 60, 60);
            ask(m, 1, 58);
            ask(m, 3, 0);
            ask(m, 2, 0);
            counts("the second parent and the child are there", m, 2, 61, 60);
            ask(m, 1, 0);
            counts("the first parent, put in first, is gone", m, 2, 62, 60);
            ask(m, 2, 0);
            counts("then the second one", m, 2, 63, 60);
            ask(m, 3, 0);
            counts("then the child, whose parents are there", m, 4, 64, 60);
        });
        says("and put into the cache, which is a making.", () -> {
            Marionette m = asker();
            counts("at first", m, 0, 0, 0);
            ask(m, 1, 0);
            counts("one", m, 0, 1, 1);
            ask(m, 3, 0);
            counts("a child, a parent that is there, and one that is not", m, 1, 3, 3);
            m.parent(0, 1);
            m.parent(0, 1);
            m.parent(0, 1);
            m.publish(0);
            ask(m, 4, 9);
            counts("three times the same parent", m, 3, 5, 5);
        });
        says("Machines ask the cache, slot by slot;", () -> {
            Marionette m = asker();
            for (int slot = 1; slot < 4; slot++) {
                m.pin(0, slot, 0, slot == 3 ? 3 : 1);
            }
            ask(m, 1, 0);
            counts("a making, two hits, and a child of a known parent", m, 3, 3, 3);
            Marionette full = asker();
            for (int number = 0; number < 58; number++) {
                ask(full, 1, number);
            }
            full.pin(0, 1, 0, 2);
            full.pin(0, 2, 0, 1);
            full.key(0, 2, 0, 0, 58);
            // The slots 0 and 1 fill the cache; slot 2 is one more, for which the number 0 goes.
            ask(full, 2, 7);
            counts("three makings", full, 0, 61, 60);
            full.pin(0, 1, -1, 0);
            full.pin(0, 2, -1, 0);
            ask(full, 1, 1);
            counts("the second is there", full, 1, 61, 60);
            ask(full, 1, 0);
            counts("the first is not", full, 1, 62, 60);
        });
        says("all other questions find values without it.", () -> {
            Marionette m = asker();
            m.value(0, 3, 0, 0, 0, 0);
            m.image(0, 0);
            counts("nothing is put in", m, 0, 0, 0);
            ask(m, 3, 0);
            m.value(0, 3, 0, 0, 0, 0);
            m.image(0, 0);
            m.isCurrent(0, 0);
            m.render(0);
            m.approve(0, 1);
            m.deliver(0, 0);
            counts("no hit", m, 0, 3, 3);
        });
    }

    private void cacheOfSixty() {
        says("The cache has at most 60; when one more is put in, that which was put in first goes.", () -> {
            Marionette m = asker();
            for (int number = 0; number < 59; number++) {
                ask(m, number);
            }
            counts("fifty-nine", m, 0, 59, 59);
            ask(m, 59);
            counts("sixty", m, 0, 60, 60);
            ask(m, 0);
            counts("the first one is there", m, 1, 60, 60);
            ask(m, 60);
            counts("one more", m, 1, 61, 60);
            ask(m, 1);
            counts("the second one is there", m, 2, 61, 60);
            ask(m, 0);
            counts("the first one was put in first, if asked for last", m, 2, 62, 60);
            ask(m, 59);
            counts("the last of the sixty is there", m, 3, 62, 60);
            ask(m, 1);
            counts("the second one went then", m, 3, 63, 60);
        });
        says("when one more is put in, that which was put in first goes.", () -> {
            Marionette m = sixteens();
            counts("eighty asked for", m, 0, 80, 60);
            m.dropImages(4);
            m.render(4);
            m.tick(30);
            counts("the last sixteen are there", m, 16, 80, 60);
            for (int shot = 0; shot < 4; shot++) {
                m.dropImages(shot);
                m.render(shot);
                m.tick(30);
            }
            // Each of them was pushed out by those ahead of it, around and around.
            counts("all others go ahead of their asking", m, 16, 144, 60);
        });
    }

    /** Five shots of sixteen frames, of which no two have the same number in channel 0, all rendered. */
    private static Marionette sixteens() {
        Marionette m = new Marionette();
        m.addAsset();
        m.publish(0);
        m.addMachine(3, 0);
        m.setDisk(999);
        for (int shot = 0; shot < 5; shot++) {
            m.addShot(16);
            m.pin(shot, 0, 0, 1);
            m.key(shot, 0, 0, 0, 100 * shot);
            m.key(shot, 0, 0, 15, 100 * shot + 15);
            m.render(shot);
            m.tick(30);
        }
        return m;
    }

    /** A shot without pins, whose frames take one tick each, and machines of the speed 1 and no weakness. */
    private static Marionette plain(int frames, int machines) {
        Marionette m = new Marionette();
        m.addShot(frames);
        for (int machine = 0; machine < machines; machine++) {
            m.addMachine(1, 0);
        }
        return m;
    }

    private void where(String what, Marionette m, long... due) {
        row(what + ": where, at", place -> m.where(0, place), due);
    }

    private void machineIs(String what, Marionette m, int machine, long... due) {
        row(what + ": machine " + machine + ", what", asked -> m.machine(machine, asked), due);
    }

    private void machinesAndQueue() {
        says("Machines are numbered from 0, at most 4;", () -> {
            Marionette m = plain(1, 0);
            row("machine", n -> m.addMachine(1 + n % 3, n), 0, 1, 2, 3);
            Stories.Story four = Stories.with(BUSY, x -> Stories.times(2, () -> x.addMachine(1, 1)));
            refused(STATE, four, x -> x.addMachine(1, 1));
            refuses(INDEX, four, (x, machine) -> x.machine(machine, 0), -1, 4);
        });
        says("a machine has a speed, 1 to 3, and a weakness, 0 to 6.", () -> {
            takes(BUSY, (m, speed) -> m.addMachine(speed, 6), 1, 3);
            takes(BUSY, (m, weakness) -> m.addMachine(3, weakness), 0, 6);
            refuses(ARGUMENT, BUSY, (m, speed) -> m.addMachine(speed, 6), 0, 4);
            refuses(ARGUMENT, BUSY, (m, weakness) -> m.addMachine(3, weakness), -1, 7);
        });
        says("The queue has frames that are to be rendered, each with its tries, 0 at first;", () -> {
            Marionette m = new Marionette();
            m.addShot(2);
            m.cut(0, 0, 1);
            m.addMachine(1, 5);
            for (int round = 1; round <= 3; round++) {
                m.render(0);
                // By 7 the tries of the name 1 are 1, 4 and 0: all of them fail.
                m.tick(1);
                same("on the machine", 10, () -> m.where(0, 0));
                m.tick(2);
                same("two tries leave it there", 10, () -> m.where(0, 0));
                m.tick(1);
                int given = round;
                row("given up, count 4 and", n -> m.count(4 + n), 3 * given, given);
                same("nowhere", 0, () -> m.where(0, 0));
            }
        });
        says("a frame is there or on a machine at most once.", () -> {
            Marionette m = plain(3, 1);
            same("all", 3, () -> m.render(0));
            same("none", 0, () -> m.render(0));
            same("three", 3, () -> m.count(0));
            m.tick(1);
            same("none, one being on the machine", 0, () -> m.render(0));
            same("two", 2, () -> m.count(0));
            m.tick(1);
            m.dropImages(0);
            same("the one that was made, and dropped", 1, () -> m.render(0));
            where("then", m, 1, 10, 1);
            same("three images are made", 3, () -> m.tick(30));
            same("the queue is empty", 0, () -> m.count(0));
        });
    }

    private void rendering() {
        says("To render a shot is to put each of its frames at the end of the queue, by places,", () -> {
            Marionette m = plain(3, 1);
            m.addShot(1);
            m.move(0, 0, 1, 2);
            m.render(1);
            m.render(0);
            int[][] shotAndName = {{1, 0}, {0, 1}, {0, 2}, {0, 0}};
            for (int[] each : shotAndName) {
                m.tick(1);
                machineIs("in their order", m, 0, each[0], each[1], 1);
            }
        });
        says("that is neither there nor on a machine,", () -> {
            Marionette m = plain(4, 2);
            m.render(0);
            m.tick(1);
            where("two and two", m, 10, 11, 1, 1);
            same("none", 0, () -> m.render(0));
            m.insert(0, 2, 1);
            same("the new one", 1, () -> m.render(0));
            where("in the queue", m, 10, 11, 1, 1, 1);
        });
        says("and whose image is not stored, or not current.", () -> {
            Marionette m = plain(3, 1);
            same("none is stored", 3, () -> m.render(0));
            m.tick(30);
            same("all are current", 0, () -> m.render(0));
            m.setLook(0, 1, 1);
            same("none is current", 3, () -> m.render(0));
            m.tick(30);
            m.insert(0, 0, 1);
            same("one is not stored", 1, () -> m.render(0));
            m.setLook(0, 2, 1);
            m.setLook(0, 1, 1);
            same("current as before", 0, () -> m.render(0));
        });
    }

    private void ticksLeft() {
        says("At a tick, machines by rising numbers: one that has a frame, and ticks left, has one less;", () -> {
            Marionette m = Stories.busy();
            for (int slot = 0; slot < 4; slot++) {
                m.pin(1, slot, 0, 1);
            }
            m.setDisk(999);
            m.tick(6);
            m.render(1);
            m.tick(1);
            machineIs("five slots and one by two", m, 0, 1, 0, 3);
            machineIs("by one", m, 1, 1, 1, 5);
            m.tick(1);
            machineIs("one less", m, 0, 1, 0, 2);
            machineIs("one less", m, 1, 1, 1, 4);
            Marionette none = plain(1, 1);
            none.tick(30);
            machineIs("without a frame", none, 0, -1, -1, 0);
            Marionette two = plain(2, 2);
            two.setDisk(12);
            two.render(0);
            same("the first machine has the room", 1, () -> two.tick(2));
            where("the second waits", two, 0, 11);
        });
    }

    private void tries() {
        says("if it has none left then, or had none: if that is its first time at none for this try:", () -> {
            // By 7 the first try of the name 1 is 1, which fails below 2; the second is 4; that of the name 0 is 3.
            Marionette m = new Marionette();
            m.addShot(2);
            m.addMachine(1, 2);
            m.setDisk(0);
            m.render(0);
            m.tick(30);
            m.tick(30);
            same("no try but the first, while it waits", 0, () -> m.count(4));
            same("it waits", 10, () -> m.where(0, 0));
            m.setDisk(999);
            same("both, the second one by its second try", 2, () -> m.tick(4));
            same("one failed", 1, () -> m.count(4));
            Marionette busy = Stories.busy();
            busy.tick(1);
            machineIs("one left: no try yet", busy, 1, 0, 3, 1);
            same("as many failed", 2, () -> busy.count(4));
        });
        says("the try is 1 more, and it fails if the remainder by 7 of 7 times the shot, 5 times the name, 3 times the tries,"
            + " this one counted, and the machine, together, is less than the weakness;", () -> {
            for (int shot = 0; shot < 5; shot++) {
                for (int name = 0; name <= 12; name++) {
                    for (int weakness = 0; weakness <= 6; weakness++) {
                        triesOf(shot, name, weakness);
                    }
                }
            }
        });
        says("then the frame comes to the end of the queue,", () -> {
            // By 7 the first try of the name 0 is 3, that of 1 is 1, that of 2 is 6.
            Marionette m = new Marionette();
            m.addShot(3);
            m.addMachine(1, 4);
            m.render(0);
            m.tick(2);
            where("behind the others", m, 1, 10, 1);
            m.tick(1);
            machineIs("the third one", m, 0, 0, 2, 1);
            m.tick(1);
            machineIs("the first one again", m, 0, 0, 0, 1);
            m.tick(1);
            machineIs("the second one again", m, 0, 0, 1, 1);
        });
        says("or, at the third try, is given up.", () -> {
            Marionette m = new Marionette();
            m.addShot(2);
            m.cut(0, 0, 1);
            m.addMachine(1, 5);
            m.render(0);
            m.tick(3);
            row("two tries, count 4 and", n -> m.count(4 + n), 2, 0);
            same("not given up", 10, () -> m.where(0, 0));
            m.tick(1);
            row("three tries, count 4 and", n -> m.count(4 + n), 3, 1);
            machineIs("free", m, 0, -1, -1, 0);
            same("nowhere", 0, () -> m.where(0, 0));
            same("not in the queue", 0, () -> m.count(0));
            m.tick(30);
            row("no more, count 4 and", n -> m.count(4 + n), 3, 1);
        });
    }

    /** Four frames from a name on, on four machines, as often as they are tried. */
    private void triesOf(int shot, int firstName, int weakness) {
        Marionette m = new Marionette();
        for (int i = 0; i <= shot; i++) {
            m.addShot(16);
        }
        if (firstName > 0) {
            m.cut(shot, 0, firstName);
        }
        if (firstName < 12) {
            m.cut(shot, 4, 12 - firstName);
        }
        List<Integer> taken = new ArrayList<>();
        for (int machine = 0; machine < 4; machine++) {
            m.addMachine(1, weakness);
            taken.add(firstName + machine);
        }
        m.render(shot);
        m.tick(1);
        int failed = 0;
        for (int tries = 1; tries <= 3; tries++) {
            List<Integer> again = new ArrayList<>();
            for (int machine = 0; machine < taken.size(); machine++) {
                if ((7 * shot + 5 * taken.get(machine) + 3 * tries + machine) % 7 < weakness) {
                    again.add(taken.get(machine));
                }
            }
            String what = "shot " + shot + ", names from " + firstName + ", weakness " + weakness + ", try " + tries;
            same(what + ": stored", taken.size() - again.size(), () -> m.tick(1));
            failed += again.size();
            taken = again;
        }
        row("failed and given up, count 4 and", n -> m.count(4 + n), failed, taken.size());
    }

    private void storing() {
        says("Otherwise its image is made, as the shot is by then,", () -> {
            Marionette m = asker();
            m.render(0);
            m.tick(1);
            m.key(0, 0, 0, 0, 77);
            m.setLook(0, 2, 3);
            m.pin(0, 0, 0, 2);
            m.pin(0, 1, 0, 1);
            long due = (5 * (m.value(0, 2, 77, 0, 0, 0) + 2 * m.value(0, 1, 0, 0, 0, 0)) + 11) / 3 % 99991;
            same("made", 1, () -> m.tick(1));
            same("as it is then", due, () -> m.stored(0, 0));
            yes("current", m.isCurrent(0, 0));
            same("by the size of then", 196, () -> m.count(6));
            m.key(0, 0, 0, 0, 78);
            same("not as it is later", due, () -> m.stored(0, 0));
        });
        says("and stored in place of the one before,", () -> {
            Marionette m = asker();
            ask(m, 5);
            m.key(0, 0, 0, 0, 6);
            m.render(0);
            same("the one before stays until then", m.value(0, 1, 5, 0, 0, 0), () -> m.stored(0, 0));
            m.tick(2);
            same("the new one", m.value(0, 1, 6, 0, 0, 0), () -> m.stored(0, 0));
            same("one image takes room", 188, () -> m.count(6));
            same("one is dropped", 1, () -> m.dropImages(0));
        });
        says("if there is room on the disk without that one;", () -> {
            for (int room = 11; room <= 13; room++) {
                Marionette m = plain(2, 1);
                m.setDisk(room);
                m.render(0);
                int fits = room < 12 ? 0 : 1;
                same("in the room " + room, fits, () -> m.tick(3));
                m.setLook(0, 1, 1);
                m.dropImages(0);
                m.cut(0, 1, 1);
                m.render(0);
                same("again in the room " + room, fits, () -> m.tick(2));
                m.setLook(0, 2, 1);
                m.render(0);
                same("in place of itself in the room " + room, fits, () -> m.tick(2));
            }
            Marionette full = plain(2, 1);
            full.setDisk(24);
            full.render(0);
            same("both fill it", 2, () -> full.tick(3));
            full.setDisk(23);
            full.setLook(0, 1, 1);
            full.render(0);
            same("the other one alone and a new one are too many", 0, () -> full.tick(3));
            full.setDisk(24);
            same("not for 24", 2, () -> full.tick(3));
        });
    }

    private void waiting() {
        says("if not, it waits on the machine, the cache not being asked, and is looked at again at the next tick.", () -> {
            Marionette m = asker();
            m.setDisk(11);
            m.render(0);
            m.tick(30);
            machineIs("it waits", m, 0, 0, 0, 0);
            counts("not asked", m, 0, 0, 0);
            m.setDisk(12);
            machineIs("until the next tick", m, 0, 0, 0, 0);
            same("then", 1, () -> m.tick(1));
            counts("asked once", m, 0, 1, 1);
            machineIs("free", m, 0, -1, -1, 0);
        });
        says("it waits on the machine,", () -> {
            Marionette m = plain(2, 1);
            m.setDisk(12);
            m.render(0);
            same("one", 1, () -> m.tick(30));
            where("the other one", m, 0, 10);
            same("the first one dropped", 1, () -> m.dropImages(0));
            same("room for it", 1, () -> m.tick(1));
            m.setLook(0, 0, 4);
            m.render(0);
            same("the smaller first one has no room beside the second", 0, () -> m.tick(9));
            m.setDisk(15);
            same("3 and 12, then 3 and 3", 2, () -> m.tick(9));
        });
    }

    private void taking() {
        says("Behind that, machines by rising numbers that have no frame take the first one of the queue;", () -> {
            Marionette m = plain(3, 2);
            m.tick(1);
            m.render(0);
            where("in the queue", m, 1, 1, 1);
            m.tick(1);
            where("by rising numbers", m, 10, 11, 1);
            same("both end", 2, () -> m.tick(1));
            where("the first one takes the last", m, 0, 0, 10);
            machineIs("no more", m, 1, -1, -1, 0);
            m.tick(1);
            machineIs("an empty queue", m, 0, -1, -1, 0);
        });
        says("the ticks are the sum of 1 and the slots that pin then, divided by the speed, rounded up.", () -> {
            int[][] due = {{1, 2, 3, 4, 5}, {1, 1, 2, 2, 3}, {1, 1, 1, 2, 2}};
            for (int speed = 1; speed <= 3; speed++) {
                for (int pins = 0; pins <= 4; pins++) {
                    Marionette m = new Marionette();
                    m.addAsset();
                    m.publish(0);
                    m.addShot(1);
                    m.addMachine(speed, 0);
                    m.render(0);
                    for (int slot = 0; slot < pins; slot++) {
                        m.pin(0, 3 - slot, 0, 1);
                    }
                    m.tick(1);
                    machineIs("speed " + speed + ", pins " + pins, m, 0, 0, 0, due[speed - 1][pins]);
                    m.pin(0, 0, -1, 0);
                    m.pin(0, 3, 0, 1);
                    machineIs("as it was then", m, 0, 0, 0, due[speed - 1][pins]);
                }
            }
        });
    }

    private void cutFrames() {
        says("A frame that is cut goes from the queue and from its machine, with its image.", () -> {
            Marionette m = Stories.busy();
            m.cut(0, 0, 1);
            same("its image", 19, () -> m.count(6));
            m.cut(0, 0, 1);
            same("from the queue", 1, () -> m.count(0));
            m.cut(0, 0, 1);
            machineIs("the one that waited", m, 0, -1, -1, 0);
            machineIs("not the other one", m, 1, 0, 3, 2);
            m.cut(0, 0, 1);
            machineIs("the other one", m, 1, -1, -1, 0);
            same("the last one stays", 1, () -> m.where(0, 0));
            m.tick(1);
            machineIs("it is taken", m, 0, 0, 4, 2);
            Marionette ends = plain(16, 1);
            ends.render(0);
            ends.cut(0, 15, 1);
            ends.cut(0, 0, 1);
            ends.cut(0, 3, 2);
            same("from both ends and between", 12, () -> ends.count(0));
            same("the others are rendered", 12, () -> ends.tick(30));
            ends.insert(0, 12, 4);
            row("new frames are nowhere", n -> ends.where(0, 12 + n) + ends.stored(0, 12 + n), -1, -1, -1, -1);
            Marionette names = plain(2, 1);
            names.addShot(2);
            names.render(0);
            names.render(1);
            names.tick(1);
            names.cut(1, 0, 1);
            where("those of the same names in the other shot stay", names, 10, 1);
            same("two in the queue", 2, () -> names.count(0));
            same("three are rendered", 3, () -> names.tick(30));
        });
    }

    private void disk() {
        says("An image takes 12, divided by the size, rounded up, on the disk,", () -> {
            int[] space = {12, 6, 4, 3};
            for (int size = 1; size <= 4; size++) {
                Marionette m = plain(1, 1);
                m.setLook(0, 0, size);
                m.setDisk(space[size - 1] - 1);
                m.render(0);
                same("too little for the size " + size, 0, () -> m.tick(5));
                m.setDisk(space[size - 1]);
                same("enough for the size " + size, 1, () -> m.tick(1));
                same("all of it", 0, () -> m.count(6));
                m.setLook(0, 0, 5 - size);
                same("as it was made", 0, () -> m.count(6));
            }
        });
        says("which has 200 at first.", () -> {
            Marionette m = plain(16, 1);
            same("at first", 200, () -> m.count(6));
            m.addShot(3);
            m.render(0);
            m.render(1);
            same("sixteen images", 16, () -> m.tick(30));
            same("8 are left", 8, () -> m.count(6));
            same("the next one waits", 10, () -> m.where(1, 0));
            m.setLook(1, 0, 2);
            same("not if it takes 6", 1, () -> m.tick(1));
            same("it had 200", 200, () -> m.setDisk(0));
            same("below 0 then", -198, () -> m.count(6));
        });
    }
}
