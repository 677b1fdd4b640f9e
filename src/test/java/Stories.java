/** Objects with calls behind them, made anew for each use. */
final class Stories {
    interface Story {
        Marionette make();
    }

    interface Act {
        void on(Marionette m);
    }

    private Stories() {
    }

    static Marionette empty() {
        return new Marionette();
    }

    /** The calls of a story, and more behind them. */
    static Story with(Story story, Act more) {
        return () -> {
            Marionette m = story.make();
            more.on(m);
            return m;
        };
    }

    static void times(int many, Runnable call) {
        for (int i = 0; i < many; i++) {
            call.run();
        }
    }

    /** Something of everything: 3 assets, 2 shots, 2 machines, 4 notes, a delivery, and a draft that is begun. */
    static Marionette busy() {
        Marionette m = new Marionette();
        publishFamily(m);
        shoot(m);
        deliverShotOne(m);
        renderShotZero(m);
        m.note(0, 1, 2);
        m.note(0, 3, 1);
        m.close(1);
        m.note(1, 0, 0);
        m.note(1, 1, 1);
        m.content(77);
        m.constrain(2, 1, 3, -5);
        m.constrain(3, 1, 0, 44);
        m.parent(0, 3);
        return m;
    }

    /** Asset 0: versions 1 to 4 of the heights 1 to 4, approved. Asset 1: 1 approved, 2 retracted, 3 its child. */
    private static void publishFamily(Marionette m) {
        times(3, m::addAsset);
        for (int version = 1; version <= 4; version++) {
            m.content(100 * version);
            m.constrain(1, version - 1, version % 4, 0);
            if (version > 1) {
                m.parent(0, version - 1);
            }
            m.publish(0);
            m.approve(0, version);
        }
        m.content(7);
        m.publish(1);
        m.approve(1, 1);
        m.publish(1);
        m.parent(1, 2);
        m.publish(1);
        m.retract(1, 2);
    }

    private static void shoot(Marionette m) {
        m.addShot(5);
        m.addShot(2);
        m.pin(0, 0, 0, 4);
        m.pin(0, 2, 1, 1);
        m.key(0, 0, 0, 0, -50);
        m.key(0, 0, 0, 3, 70);
        m.key(0, 2, 3, 1, 9);
        m.pin(1, 0, 0, 2);
        m.pin(1, 3, 0, 1);
        m.key(1, 3, 1, 0, 12);
        m.setLook(1, 1, 3);
        m.work(1, 50, 20);
    }

    private static void deliverShotOne(Marionette m) {
        m.addMachine(2, 0);
        m.addMachine(1, 6);
        m.render(1);
        m.tick(9);
        m.approveShot(1);
        m.deliver(1, 1);
    }

    /** The frames of shot 0 are stored, waiting on a machine for want of room, on the other one, and in the queue. */
    private static void renderShotZero(Marionette m) {
        m.setDisk(27);
        m.render(0);
        m.tick(5);
        m.approveShot(0);
    }
}
