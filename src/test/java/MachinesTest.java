/** Promises 18 to 22 and 34 to 38: machines, the queue, the disk, the cache. */
public final class MachinesTest {
    private static final Check CHECK = new Check("MachinesTest");

    public static void main(String[] args) {
        addMachineCountsUpToFour();
        setDiskTellsWhatItHad();
        renderPutsFramesIntoTheQueue();
        renderLeavesCurrentFramesOut();
        machinesTakeFramesByTheirNumbers();
        ticksOfPinsAndSpeed();
        ticksAreThoseOfTheTaking();
        theImageIsThatOfTheEnd();
        triesFailByTheirNumbers();
        theThirdFailureGivesUp();
        triesBeginAgainWithTheQueue();
        shotsWaitInOneQueue();
        theQueueHasRoomForAllFrames();
        aWaitingFrameIsTriedOnce();
        aFullDiskLetsMachinesWait();
        theImageBeforeMakesRoom();
        imagesTakeWhatTheirSizeSays();
        cutFramesGoFromEverywhere();
        movedFramesStayInTheQueue();
        currentAsksWhatAnImageIsMadeOf();
        currentLeavesOutSlotsWithoutPins();
        dropImagesTellsHowMany();
        theCacheIsAskedBySlots();
        theCacheIsAskedByParents();
        theCacheKeepsSixty();
        questionsLeaveTheCacheAlone();
        questionsTestTheirArguments();
        tickTestsItsArguments();
        CHECK.end();
    }

    /** One version of the content 0, and a shot of some frames that pins it in slot 0. */
    private static Marionette withShot(int frames) {
        Marionette m = new Marionette();
        m.addAsset();
        m.publish(0);
        m.addShot(frames);
        m.pin(0, 0, 0, 1);
        return m;
    }

    private static void sameCounts(String what, Marionette m, int... due) {
        for (int i = 0; i < due.length; i++) {
            int asked = i;
            CHECK.same(what + ": count " + i, due[i], () -> m.count(asked));
        }
    }

    private static void sameWhere(String what, Marionette m, int shot, int... due) {
        for (int place = 0; place < due.length; place++) {
            int at = place;
            CHECK.same(what + ": where " + at, due[at], () -> m.where(shot, at));
        }
    }

    private static void sameMachine(String what, Marionette m, int machine, int shot, int name, int ticks) {
        CHECK.same(what + ": shot", shot, () -> m.machine(machine, 0));
        CHECK.same(what + ": name", name, () -> m.machine(machine, 1));
        CHECK.same(what + ": ticks", ticks, () -> m.machine(machine, 2));
    }

    private static void addMachineCountsUpToFour() {
        Marionette m = new Marionette();
        CHECK.noArgument("speed 0", () -> m.addMachine(0, 0));
        CHECK.noArgument("speed 4", () -> m.addMachine(4, 0));
        CHECK.noArgument("weakness -1", () -> m.addMachine(1, -1));
        CHECK.noArgument("weakness 7", () -> m.addMachine(1, 7));
        CHECK.same("first", 0, () -> m.addMachine(1, 0));
        CHECK.same("second", 1, () -> m.addMachine(3, 6));
        CHECK.same("third", 2, () -> m.addMachine(2, 3));
        CHECK.same("fourth", 3, () -> m.addMachine(2, 3));
        CHECK.noState("a fifth", () -> m.addMachine(1, 0));
        CHECK.noArgument("a fifth, wrong", () -> m.addMachine(0, 0));
        sameMachine("a new one", m, 3, -1, -1, 0);
        CHECK.noIndex("machine 4", () -> m.machine(4, 0));
    }

    private static void setDiskTellsWhatItHad() {
        Marionette m = new Marionette();
        CHECK.same("at first", 200, () -> m.setDisk(0));
        CHECK.same("left", 0, () -> m.count(6));
        CHECK.same("then", 0, () -> m.setDisk(999));
        CHECK.noArgument("room -1", () -> m.setDisk(-1));
        CHECK.noArgument("room 1000", () -> m.setDisk(1000));
        CHECK.same("left then", 999, () -> m.count(6));
    }

    private static void renderPutsFramesIntoTheQueue() {
        Marionette m = withShot(3);
        CHECK.noIndex("shot 1", () -> m.render(1));
        CHECK.noIndex("shot -1", () -> m.render(-1));
        CHECK.same("all", 3, () -> m.render(0));
        sameWhere("all", m, 0, 1, 1, 1);
        CHECK.same("none again", 0, () -> m.render(0));
        m.insert(0, 1, 1);
        CHECK.same("the new one", 1, () -> m.render(0));
        CHECK.same("queue", 4, () -> m.count(0));
        m.addMachine(1, 0);
        m.tick(1);
        sameWhere("on the machine", m, 0, 10, 1, 1, 1);
        CHECK.same("none that is on a machine", 0, () -> m.render(0));
        CHECK.same("queue then", 3, () -> m.count(0));
        m.tick(4);
        sameMachine("by places, then the new one", m, 0, 0, 2, 2);
        m.tick(2);
        sameMachine("the new one last", m, 0, 0, 3, 2);
    }

    private static void renderLeavesCurrentFramesOut() {
        Marionette m = withShot(3);
        m.addMachine(3, 0);
        m.render(0);
        CHECK.same("all", 3, () -> m.tick(4));
        CHECK.same("all current", 0, () -> m.render(0));
        m.key(0, 0, 0, 0, 1);
        m.key(0, 0, 0, 1, 0);
        CHECK.same("one is not", 1, () -> m.render(0));
        sameWhere("one", m, 0, 1, 0, 0);
        m.dropImages(0);
        CHECK.same("those that are not stored", 2, () -> m.render(0));
    }

    private static void machinesTakeFramesByTheirNumbers() {
        Marionette m = withShot(4);
        m.addMachine(1, 0);
        m.addMachine(2, 0);
        m.addMachine(1, 0);
        CHECK.same("without a queue", 0, () -> m.tick(2));
        sameMachine("without a queue", m, 0, -1, -1, 0);
        m.render(0);
        CHECK.same("nothing yet", 0, () -> m.tick(1));
        sameWhere("taken", m, 0, 10, 11, 12, 1);
        sameMachine("0", m, 0, 0, 0, 2);
        sameMachine("1", m, 1, 0, 1, 1);
        sameMachine("2", m, 2, 0, 2, 2);
        CHECK.same("the fast one", 1, () -> m.tick(1));
        sameMachine("the fast one takes the last", m, 1, 0, 3, 1);
        sameWhere("stored", m, 0, 10, 0, 12, 11);
        CHECK.same("all others", 3, () -> m.tick(1));
        sameMachine("without a frame", m, 1, -1, -1, 0);
        CHECK.same("disk", 200 - 4 * 12, () -> m.count(6));
    }

    private static void ticksOfPinsAndSpeed() {
        int[][] due = {{1, 2, 3, 4, 5}, {1, 1, 2, 2, 3}, {1, 1, 1, 2, 2}};
        for (int speed = 1; speed <= 3; speed++) {
            for (int pins = 0; pins <= 4; pins++) {
                Marionette m = new Marionette();
                m.addAsset();
                m.publish(0);
                m.addShot(1);
                for (int slot = 4 - pins; slot < 4; slot++) {
                    m.pin(0, slot, 0, 1);
                }
                m.addMachine(speed, 0);
                m.render(0);
                m.tick(1);
                int ticks = due[speed - 1][pins];
                sameMachine("speed " + speed + ", pins " + pins, m, 0, 0, 0, ticks);
                if (ticks > 1) {
                    CHECK.same("not yet", 0, () -> m.tick(ticks - 1));
                }
                CHECK.same("then", 1, () -> m.tick(1));
            }
        }
    }

    private static void ticksAreThoseOfTheTaking() {
        Marionette m = withShot(2);
        m.addMachine(1, 0);
        m.render(0);
        m.tick(1);
        m.pin(0, 1, 0, 1);
        m.pin(0, 2, 0, 1);
        sameMachine("as taken", m, 0, 0, 0, 2);
        CHECK.same("stored", 1, () -> m.tick(2));
        sameMachine("as the next is taken", m, 0, 0, 1, 4);
    }

    private static void theImageIsThatOfTheEnd() {
        Marionette m = withShot(2);
        m.addMachine(1, 0);
        m.render(0);
        m.tick(2);
        m.key(0, 0, 0, 0, 5);
        m.move(0, 0, 1, 1);
        m.tick(1);
        CHECK.same("the frame of the name 0", 14, () -> m.stored(0, 1));
        CHECK.yes("current", m.isCurrent(0, 1));
        CHECK.same("the other one", -1, () -> m.stored(0, 0));
        m.key(0, 0, 0, 1, 6);
        CHECK.same("it stays", 14, () -> m.stored(0, 1));
        CHECK.no("not current", m.isCurrent(0, 1));
    }

    private static void triesFailByTheirNumbers() {
        Marionette m = new Marionette();
        m.addShot(1);
        m.addShot(2);
        m.addMachine(1, 0);
        m.addMachine(1, 2);
        m.render(1);
        // Without pins a frame takes one tick; 7 + 5 * 1 + 3 * 1 + 1 is 2 by 7: not less than 2.
        m.tick(1);
        CHECK.same("2 is not less than 2", 2, () -> m.tick(1));
        sameCounts("none failed", m, 0, 0, 0, 0, 0, 0, 176);
        m.dropImages(1);

        Marionette weak = new Marionette();
        weak.addShot(1);
        weak.addShot(2);
        weak.addMachine(1, 0);
        weak.addMachine(1, 3);
        weak.render(1);
        weak.tick(1);
        CHECK.same("2 is less than 3", 1, () -> weak.tick(1));
        CHECK.same("failed", 1, () -> weak.count(4));
        CHECK.same("it is taken again at once", 10, () -> weak.where(1, 1));
        CHECK.same("by the first machine", 1, () -> weak.tick(1));
    }

    private static void theThirdFailureGivesUp() {
        Marionette m = new Marionette();
        m.addShot(9);
        m.addMachine(1, 6);
        m.render(0);
        // 5 * name + 3 * try by 7: 6 alone is not less than the weakness 6.
        int stored = m.tick(28);
        int due = 0;
        int failed = 0;
        int givenUp = 0;
        for (int name = 0; name < 9; name++) {
            int tries = 1;
            while (tries <= 3 && (5 * name + 3 * tries) % 7 < 6) {
                tries++;
                failed++;
            }
            givenUp += tries > 3 ? 1 : 0;
            due += tries > 3 ? 0 : 1;
            int at = name;
            CHECK.same("where " + at, 0, () -> m.where(0, at));
            CHECK.same("stored " + at, tries > 3 ? -1 : 0, () -> m.stored(0, at));
        }
        CHECK.same("stored", due, () -> stored);
        sameCounts("given up", m, 0, 0, 0, 0, failed, givenUp, 200 - 12 * due, 0);
        CHECK.yes("some of each", due > 0 && givenUp > 0);
    }

    private static void triesBeginAgainWithTheQueue() {
        Marionette m = new Marionette();
        m.addShot(1);
        m.addMachine(1, 6);
        m.render(0);
        m.tick(2);
        sameMachine("failed, taken again", m, 0, 0, 0, 1);
        CHECK.same("the second try, 6, does not fail", 1, () -> m.tick(1));
        CHECK.same("one failed", 1, () -> m.count(4));
        m.dropImages(0);
        m.render(0);
        CHECK.same("again the first try fails", 0, () -> m.tick(2));
        CHECK.same("two failed", 2, () -> m.count(4));
        CHECK.same("again the second does not", 1, () -> m.tick(1));
    }

    private static void shotsWaitInOneQueue() {
        Marionette m = new Marionette();
        m.addShot(1);
        m.addShot(2);
        m.addShot(1);
        m.addMachine(1, 0);
        CHECK.same("shot 1", 2, () -> m.render(1));
        CHECK.same("shot 0", 1, () -> m.render(0));
        m.tick(1);
        sameMachine("first", m, 0, 1, 0, 1);
        CHECK.same("shot 2", 1, () -> m.render(2));
        m.tick(1);
        sameMachine("second", m, 0, 1, 1, 1);
        m.tick(1);
        sameMachine("third", m, 0, 0, 0, 1);
        m.tick(1);
        sameMachine("fourth", m, 0, 2, 0, 1);
        CHECK.same("the last", 1, () -> m.tick(30));
    }

    private static void theQueueHasRoomForAllFrames() {
        Marionette m = new Marionette();
        for (int shot = 0; shot < 5; shot++) {
            int of = shot;
            m.addShot(16);
            CHECK.same("all of shot " + shot, 16, () -> m.render(of));
        }
        CHECK.same("all", 80, () -> m.count(0));
        sameWhere("all", m, 4, 1, 1, 1, 1, 1, 1, 1, 1, 1, 1, 1, 1, 1, 1, 1, 1);
        m.setDisk(999);
        m.addMachine(3, 0);
        for (int ticks = 1; ticks < 81; ticks += 20) {
            m.tick(20);
        }
        CHECK.same("all but one", 1, () -> m.tick(1));
        CHECK.same("disk", 999 - 80 * 12, () -> m.count(6));
        CHECK.same("sixteen images", 16, () -> m.dropImages(4));
    }

    private static void aWaitingFrameIsTriedOnce() {
        Marionette m = new Marionette();
        m.addShot(2);
        m.addMachine(1, 3);
        m.setDisk(0);
        m.render(0);
        // By 7 the first three tries of the name 0 are 3, 6 and 2, of which only 2 fails; the first one of 1 is 1.
        m.tick(4);
        sameMachine("it waits", m, 0, 0, 0, 0);
        m.tick(4);
        sameMachine("it still waits", m, 0, 0, 0, 0);
        CHECK.same("none failed", 0, () -> m.count(4));
        m.setDisk(12);
        CHECK.same("stored with its first try", 1, () -> m.tick(1));
        CHECK.same("then", 0, () -> m.tick(1));
        CHECK.same("the next one fails", 1, () -> m.count(4));
    }

    private static void aFullDiskLetsMachinesWait() {
        Marionette m = withShot(3);
        m.addMachine(2, 0);
        m.addMachine(2, 0);
        m.setDisk(23);
        m.render(0);
        CHECK.same("one has room", 1, () -> m.tick(5));
        sameWhere("two wait", m, 0, 0, 11, 10);
        sameCounts("the cache was asked once", m, 0, 0, 1, 1, 0, 0, 11);
    }

    private static void theImageBeforeMakesRoom() {
        Marionette m = withShot(2);
        m.addMachine(2, 0);
        m.setDisk(24);
        m.render(0);
        CHECK.same("both just fit", 2, () -> m.tick(4));
        CHECK.same("full", 0, () -> m.count(6));
        m.key(0, 0, 0, 0, 1);
        m.render(0);
        CHECK.same("in place of those before", 2, () -> m.tick(4));
        m.setDisk(17);
        CHECK.same("beyond", -7, () -> m.count(6));
        m.setLook(0, 0, 2);
        m.render(0);
        CHECK.same("12 and 6 are too many", 0, () -> m.tick(4));
        m.setDisk(18);
        CHECK.same("12 and 6 fit", 2, () -> m.tick(2));
        CHECK.same("left", 6, () -> m.count(6));
        m.setLook(0, 0, 1);
        m.render(0);
        CHECK.same("6 and 12 fit, 12 and 12 do not", 1, () -> m.tick(9));
        CHECK.same("left then", 0, () -> m.count(6));
        sameWhere("the second waits", m, 0, 0, 10);
    }

    private static void imagesTakeWhatTheirSizeSays() {
        int[] due = {12, 6, 4, 3};
        for (int size = 1; size <= 4; size++) {
            Marionette m = withShot(2);
            m.addMachine(3, 0);
            m.setLook(0, 0, size);
            m.setDisk(due[size - 1] - 1);
            m.render(0);
            CHECK.same("too little", 0, () -> m.tick(9));
            m.setDisk(due[size - 1]);
            CHECK.same("just enough, size " + size, 1, () -> m.tick(1));
            CHECK.same("none left", 0, () -> m.count(6));
            m.setLook(0, 0, 5 - size);
            CHECK.same("what is stored keeps its size", 0, () -> m.count(6));
            CHECK.same("dropped", 1, () -> m.dropImages(0));
            CHECK.same("all left", due[size - 1], () -> m.count(6));
        }
    }

    private static void cutFramesGoFromEverywhere() {
        Marionette m = withShot(6);
        m.addMachine(1, 0);
        m.addMachine(1, 0);
        m.render(0);
        m.tick(4);
        // 0 and 1 are stored, 2 and 3 on machines, 4 and 5 in the queue.
        CHECK.same("cut", 3, () -> m.cut(0, 1, 3));
        sameMachine("0", m, 0, -1, -1, 0);
        sameMachine("1", m, 1, -1, -1, 0);
        sameWhere("left", m, 0, 0, 1, 1);
        sameCounts("an image less", m, 2, 1, 1, 1, 0, 0, 188);
        CHECK.same("cut the first of the queue", 2, () -> m.cut(0, 1, 1));
        CHECK.same("queue", 1, () -> m.count(0));
        m.insert(0, 1, 1);
        CHECK.same("a new frame has no image", -1, () -> m.stored(0, 1));
        CHECK.same("and is nowhere", 0, () -> m.where(0, 1));
        m.tick(1);
        sameMachine("the next one", m, 0, 0, 5, 2);
        CHECK.same("it ends", 1, () -> m.tick(9));
        m.insert(0, 0, 3);
        m.render(0);
        m.cut(0, 2, 1);
        m.cut(0, 1, 1);
        CHECK.same("the last of the queue is cut", 2, () -> m.count(0));
        CHECK.same("the rest ends", 2, () -> m.tick(9));

        Marionette waiting = withShot(2);
        waiting.addMachine(3, 0);
        waiting.setDisk(0);
        waiting.render(0);
        waiting.tick(5);
        waiting.cut(0, 0, 1);
        sameMachine("no more waiting", waiting, 0, -1, -1, 0);
        waiting.setDisk(12);
        CHECK.same("the other one", 1, () -> waiting.tick(2));
    }

    private static void movedFramesStayInTheQueue() {
        Marionette m = withShot(3);
        m.addMachine(1, 0);
        m.render(0);
        m.tick(1);
        m.move(0, 0, 1, 2);
        sameWhere("moved", m, 0, 1, 1, 10);
        m.move(0, 1, 1, 0);
        m.tick(2);
        sameMachine("the queue has its own order", m, 0, 0, 1, 2);
        CHECK.same("stored went with its frame", 9, () -> m.stored(0, 2));
        m.tick(2);
        CHECK.same("and this", 9, () -> m.stored(0, 1));
        CHECK.same("not this", -1, () -> m.stored(0, 0));
    }

    private static void currentAsksWhatAnImageIsMadeOf() {
        Marionette m = withShot(2);
        m.publish(0);
        m.addMachine(3, 0);
        m.render(0);
        m.tick(30);
        CHECK.yes("stored", m.isCurrent(0, 1));
        m.pin(0, 0, 0, 2);
        CHECK.same("another version of the same value", 9, () -> m.image(0, 1));
        CHECK.no("is another one", m.isCurrent(0, 1));
        m.pin(0, 0, 0, 1);
        CHECK.yes("pinned again", m.isCurrent(0, 1));
        m.pin(0, 0, -1, 0);
        CHECK.no("none", m.isCurrent(0, 1));
        m.pin(0, 0, 0, 1);
        m.pin(0, 1, 0, 1);
        CHECK.no("one more", m.isCurrent(0, 1));
        m.pin(0, 1, -1, 0);
        m.key(0, 0, 0, 0, 4);
        CHECK.no("a channel", m.isCurrent(0, 1));
        m.key(0, 0, 1, 0, -2);
        CHECK.same("two channels, the same value", 9, () -> m.image(0, 1));
        CHECK.no("other channels", m.isCurrent(0, 1));
        m.key(0, 0, 0, 0, 0);
        m.key(0, 0, 1, 0, 0);
        CHECK.yes("keys of 0 are as none", m.isCurrent(0, 1));
        for (int channel = 0; channel < 4; channel++) {
            m.key(0, 0, channel, 1, 1);
            CHECK.no("channel " + channel, m.isCurrent(0, 1));
            m.dropKey(0, 0, channel, 1);
            CHECK.yes("without it", m.isCurrent(0, 1));
        }
        m.setLook(0, 1, 1);
        CHECK.no("colour", m.isCurrent(0, 1));
        m.render(0);
        m.tick(30);
        CHECK.yes("made by the colour 1", m.isCurrent(0, 1));
        m.setLook(0, 2, 1);
        CHECK.no("colour 2", m.isCurrent(0, 1));
        m.setLook(0, 0, 1);
        CHECK.no("colour 0", m.isCurrent(0, 1));
        m.render(0);
        m.tick(30);
        m.setLook(0, 0, 2);
        CHECK.no("size", m.isCurrent(0, 1));
        m.setLook(0, 0, 1);
        CHECK.yes("look again", m.isCurrent(0, 1));
        m.retract(0, 1);
        CHECK.yes("retracted, and still pinned", m.isCurrent(0, 1));
    }

    private static void currentLeavesOutSlotsWithoutPins() {
        Marionette m = withShot(2);
        m.addMachine(3, 0);
        m.key(0, 1, 0, 0, 7);
        m.render(0);
        m.tick(30);
        m.key(0, 1, 0, 0, 8);
        m.key(0, 3, 3, 1, 8);
        CHECK.yes("keys of slots that do not pin", m.isCurrent(0, 0));
        m.move(0, 0, 1, 1);
        CHECK.yes("moved, as it was", m.isCurrent(0, 0));
        m.pin(0, 3, 0, 1);
        m.render(0);
        m.tick(30);
        CHECK.yes("of both", m.isCurrent(0, 0));
        m.key(0, 3, 3, 0, 9);
        CHECK.no("a key of the last slot", m.isCurrent(0, 0));
    }

    private static void dropImagesTellsHowMany() {
        Marionette m = withShot(3);
        m.addShot(1);
        m.addMachine(3, 0);
        CHECK.noIndex("shot 2", () -> m.dropImages(2));
        CHECK.noIndex("shot -1", () -> m.dropImages(-1));
        CHECK.same("none stored", 0, () -> m.dropImages(0));
        m.render(0);
        m.render(1);
        m.tick(3);
        CHECK.same("two stored", 2, () -> m.dropImages(0));
        CHECK.same("none more", 0, () -> m.dropImages(0));
        CHECK.same("gone", -1, () -> m.stored(0, 0));
        CHECK.no("not current", m.isCurrent(0, 0));
        CHECK.same("disk", 200, () -> m.count(6));
        sameWhere("the one on the machine stays", m, 0, 0, 0, 10);
        CHECK.same("it and the other shot", 2, () -> m.tick(9));
        CHECK.same("one", 1, () -> m.dropImages(0));
        CHECK.same("the other shot keeps its own", 0, () -> m.stored(1, 0));
    }

    private static void theCacheIsAskedBySlots() {
        Marionette m = withShot(1);
        m.pin(0, 2, 0, 1);
        m.pin(0, 3, 0, 1);
        m.key(0, 3, 1, 0, 5);
        m.addMachine(3, 0);
        m.render(0);
        m.tick(9);
        sameCounts("slot 2 as slot 0, slot 3 not", m, 0, 1, 2, 2);
        m.pin(0, 0, -1, 0);
        m.render(0);
        m.tick(9);
        sameCounts("both known", m, 0, 3, 2, 2);
        CHECK.same("of what the cache has", (3 * 9 + 4 * 19), () -> m.stored(0, 0));
    }

    private static void theCacheIsAskedByParents() {
        Marionette m = new Marionette();
        m.addAsset();
        m.publish(0);
        m.constrain(3, 0, 0, 10);
        m.parent(0, 1);
        m.parent(0, 1);
        m.publish(0);
        m.addShot(1);
        m.pin(0, 0, 0, 2);
        m.key(0, 0, 0, 0, 12);
        m.addMachine(3, 0);
        m.render(0);
        m.tick(9);
        sameCounts("a child, a parent, which then is known", m, 0, 1, 2, 2);
        m.key(0, 0, 0, 0, 11);
        m.render(0);
        m.tick(9);
        sameCounts("a new child of the same parents", m, 0, 3, 3, 3);
        m.pin(0, 0, 0, 1);
        m.key(0, 0, 0, 0, 10);
        m.render(0);
        m.tick(9);
        sameCounts("a parent as it was asked for", m, 0, 4, 3, 3);
        CHECK.same("its value", 19, () -> m.stored(0, 0));
        m.key(0, 0, 0, 0, 12);
        m.render(0);
        m.tick(9);
        sameCounts("another version for known channels", m, 0, 4, 4, 4);
    }

    /** Renders the only frame for a number of channel 0. */
    private static void renderFor(Marionette m, int number) {
        m.key(0, 0, 0, 0, number);
        m.dropImages(0);
        m.render(0);
        m.tick(2);
    }

    private static void theCacheKeepsSixty() {
        Marionette m = withShot(1);
        m.addMachine(3, 0);
        for (int number = 0; number < 60; number++) {
            renderFor(m, number);
        }
        sameCounts("sixty", m, 0, 0, 60, 60);
        renderFor(m, 0);
        sameCounts("the first is there, and stays the first", m, 0, 1, 60, 60);
        renderFor(m, 60);
        sameCounts("one more", m, 0, 1, 61, 60);
        renderFor(m, 1);
        sameCounts("the second is there", m, 0, 2, 61, 60);
        renderFor(m, 0);
        sameCounts("the first is gone, and comes again", m, 0, 2, 62, 60);
        renderFor(m, 1);
        sameCounts("then the second is gone", m, 0, 2, 63, 60);
        renderFor(m, 60);
        sameCounts("the last is there", m, 0, 3, 63, 60);
        CHECK.same("its value", 69, () -> m.stored(0, 0));
    }

    private static void questionsLeaveTheCacheAlone() {
        Marionette m = withShot(1);
        m.addMachine(3, 0);
        m.image(0, 0);
        m.value(0, 1, 0, 0, 0, 0);
        m.isCurrent(0, 0);
        sameCounts("nothing asked", m, 0, 0, 0, 0);
        m.render(0);
        m.tick(2);
        m.image(0, 0);
        m.value(0, 1, 0, 0, 0, 0);
        m.render(0);
        m.deliver(0, 0);
        sameCounts("one making", m, 0, 0, 1, 1);
    }

    private static void questionsTestTheirArguments() {
        Marionette m = withShot(2);
        m.addMachine(1, 0);
        int[][] wrong = {{-1, 0}, {1, 0}, {0, -1}, {0, 2}};
        for (int[] w : wrong) {
            String at = " of shot " + w[0] + " at " + w[1];
            CHECK.noIndex("stored" + at, () -> m.stored(w[0], w[1]));
            CHECK.noIndex("isCurrent" + at, () -> m.isCurrent(w[0], w[1]));
            CHECK.noIndex("where" + at, () -> m.where(w[0], w[1]));
        }
        CHECK.noIndex("machine -1", () -> m.machine(-1, 0));
        CHECK.noIndex("machine 1", () -> m.machine(1, 0));
        CHECK.noIndex("machine 1 goes ahead of what", () -> m.machine(1, 3));
        CHECK.noArgument("machine, what -1", () -> m.machine(0, -1));
        CHECK.noArgument("machine, what 3", () -> m.machine(0, 3));
        CHECK.noArgument("count -1", () -> m.count(-1));
        CHECK.noArgument("count 8", () -> m.count(8));
    }

    private static void tickTestsItsArguments() {
        Marionette m = withShot(1);
        m.addMachine(1, 0);
        m.render(0);
        CHECK.noArgument("ticks -1", () -> m.tick(-1));
        CHECK.noArgument("ticks 0", () -> m.tick(0));
        CHECK.noArgument("ticks 31", () -> m.tick(31));
        CHECK.same("no tick passed", 1, () -> m.where(0, 0));
        CHECK.same("ticks 30", 1, () -> m.tick(30));
    }
}
