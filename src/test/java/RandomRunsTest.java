import java.util.ArrayDeque;
import java.util.Arrays;
import java.util.Deque;

/** Long runs of calls of all promises, each answer compared with that of PlainStudio. */
public final class RandomRunsTest {
    private static final int RUNS = 1200;
    private static final int CALLS = 512;
    private static final int KINDS = 40;

    private final Marionette studio = new Marionette();
    private final PlainStudio plain = new PlainStudio();
    private final int run;
    private long seed;
    private boolean early;
    private final Deque<int[]> planned = new ArrayDeque<>();

    private RandomRunsTest(int run) {
        this.run = run;
        seed = 1000003L * run + 17;
    }

    public static void main(String[] args) {
        for (int run = 0; run < RUNS; run++) {
            if (!new RandomRunsTest(run).isAsDue()) {
                System.exit(1);
            }
        }
        System.out.println("RandomRunsTest: " + RUNS + " runs, all answers are as due");
    }

    /** A number from 0 to below many, from a row that is the same at each start. */
    private int next(int many) {
        seed = seed * 6364136223846793005L + 1442695040888963407L;
        return (int) ((seed >>> 33) % many);
    }

    /** Mostly a number from 0 to below many, now and then one beside that. */
    private int about(int many) {
        int kind = next(120);
        if (kind == 0) {
            return -1;
        }
        if (kind == 1) {
            return many;
        }
        if (kind == 2) {
            return next(2) == 0 ? Integer.MIN_VALUE : Integer.MAX_VALUE;
        }
        return next(Math.max(1, many));
    }

    private boolean isAsDue() {
        StringBuilder calls = new StringBuilder();
        for (int call = 0; call < CALLS; call++) {
            early = call < 40;
            if (!early && planned.isEmpty() && run % 2 == 0 && next(40) == 0) {
                planStory();
            }
            int[] plan = planned.poll();
            int kind = plan == null ? pick() : plan[0];
            int[] a = plan == null ? arguments(kind) : Arrays.copyOfRange(plan, 1, plan.length);
            String due = answer(kind, a, true);
            String got = answer(kind, a, false);
            calls.append(kind + 2).append(Arrays.toString(a)).append(" -> ").append(due).append('\n');
            if (!due.equals(got)) {
                System.out.println(calls + "run " + run + ": the last call, of promise "
                    + (kind + 2) + ", answered " + got + ", due is " + due);
                return false;
            }
        }
        return true;
    }

    private void plan(int... kindAndArguments) {
        planned.add(kindAndArguments);
    }

    /** What single calls hardly ever bring about: a delivery that is kept, and a cache that is full. */
    private void planStory() {
        int shot = next(2);
        plan(17, 300 + next(600));
        if (next(2) == 0) {
            planDelivery(shot);
        } else {
            for (int i = 0; i < 16; i++) {
                plan(9, shot, i % 4, next(4), 0, next(400));
                plan(18, shot);
                plan(20, 15);
                plan(36, 1 + i % 3);
            }
        }
    }

    private void planDelivery(int shot) {
        for (int slot = 0; slot < 4; slot++) {
            plan(8, shot, slot, next(2) == 0 ? -1 : next(2), 1 + next(2));
        }
        for (int asset = 0; asset < 3; asset++) {
            plan(6, asset, 1);
            plan(6, asset, 2);
        }
        for (int note = 0; note < next(12); note++) {
            plan(22, note);
        }
        plan(11, shot, next(3), 1 + next(4));
        plan(15, shot);
        plan(18, shot);
        plan(20, 30);
        plan(18, shot);
        plan(20, 30);
        for (int i = 0; i < 6; i++) {
            plan(24, shot, i % 3);
            plan(38, next(4), next(6));
        }
    }

    /** Early calls build; later ones are of all kinds, those that make long stories more often. */
    private int pick() {
        if (early) {
            int[] first = {0, 1, 2, 2, 3, 4, 4, 6, 6, 7, 8, 8, 9, 16};
            return first[next(first.length)];
        }
        int[] often = {8, 9, 9, 9, 15, 18, 18, 18, 20, 20, 20, 20, 6, 6, 24, 24, 24, 12, 13, 31, 32, 33, 34, 35, 36, 36, 36, 37, 38};
        if (next(3) > 0) {
            return often[next(often.length)];
        }
        int kind = next(KINDS - 1);
        boolean rare = kind == 5 || kind == 17 || kind == 19 || kind == 11;
        return rare && next(run % 3 + 1) > 0 ? 20 : kind;
    }

    private int place() {
        return about(next(4) == 0 ? 16 : 5);
    }

    private int shotNumber() {
        return about(next(3) == 0 ? 5 : 2);
    }

    private int asset() {
        return about(next(3) == 0 ? 10 : 3);
    }

    private int version() {
        return about(next(3) == 0 ? 7 : 3);
    }

    private int channelValue() {
        int kind = next(40);
        if (kind == 0) {
            return next(2) == 0 ? 10000 : -10000;
        }
        return kind < 4 ? next(19999) - 9999 : next(9) - 4;
    }

    private int[] arguments(int kind) {
        switch (kind) {
            case 1: return new int[] {about(1000)};
            case 2: return constraint();
            case 3: return new int[] {asset(), version()};
            case 4: return new int[] {asset()};
            case 5: case 6: return new int[] {asset(), version()};
            case 7: return new int[] {about(17)};
            case 8: return new int[] {shotNumber(), about(4), next(6) == 0 ? -1 : asset(), version()};
            case 9: return new int[] {shotNumber(), about(4), about(next(2) == 0 ? 1 : 4), place(), channelValue()};
            case 10: return new int[] {shotNumber(), about(2), about(2), place()};
            case 11: return new int[] {shotNumber(), about(3), about(5)};
            case 12: return new int[] {shotNumber(), place(), about(4)};
            case 13: return new int[] {shotNumber(), place(), about(4)};
            case 14: return new int[] {shotNumber(), place(), about(6), place()};
            case 15: return new int[] {shotNumber()};
            case 16: return new int[] {about(4), about(next(2) == 0 ? 2 : 7)};
            case 17: return new int[] {next(2) == 0 ? about(1000) : next(250)};
            case 18: case 19: return new int[] {shotNumber()};
            case 20: return new int[] {next(4) == 0 ? about(31) : 1 + next(5)};
            case 21: return new int[] {shotNumber(), place(), about(3)};
            case 22: return new int[] {about(30)};
            case 23: return new int[] {shotNumber(), next(2) * about(1000), about(100)};
            case 24: return new int[] {shotNumber(), next(4) == 0 ? about(3) : 0};
            case 25: return new int[] {asset()};
            case 26: return new int[] {asset(), version(), about(6)};
            case 27: return new int[] {asset(), version(), channelValue(), channelValue(), channelValue(), channelValue()};
            case 28: return new int[] {shotNumber(), about(8)};
            case 29: return new int[] {shotNumber(), place()};
            case 30: return new int[] {shotNumber(), about(4), about(4), place()};
            case 31: case 32: case 33: case 34: return new int[] {shotNumber(), place()};
            case 35: return new int[] {about(4), about(3)};
            case 36: return new int[] {about(8)};
            case 37: return new int[] {about(next(2) == 0 ? 30 : 4)};
            case 38: return new int[] {about(next(2) == 0 ? 20 : 3), about(17)};
            default: return new int[0];
        }
    }

    private int[] constraint() {
        int kind = about(4);
        int number = kind == 2 ? next(19) - 9 : kind == 3 ? about(1000) : next(30) == 0 ? 1 : 0;
        return new int[] {kind, about(4), about(4), number};
    }

    private String answer(int kind, int[] a, boolean ofPlain) {
        try {
            if (kind < 20) {
                return Long.toString(ofPlain ? plainChange(kind, a) : change(kind, a));
            }
            return Long.toString(ofPlain ? plainAnswer(kind, a) : question(kind, a));
        } catch (RuntimeException e) {
            return e.getClass().getSimpleName();
        }
    }

    private static int bit(boolean so) {
        return so ? 1 : 0;
    }

    private long change(int kind, int[] a) {
        Marionette m = studio;
        switch (kind) {
            case 0: return m.addAsset();
            case 1: return m.content(a[0]);
            case 2: return m.constrain(a[0], a[1], a[2], a[3]);
            case 3: return m.parent(a[0], a[1]);
            case 4: return m.publish(a[0]);
            case 5: return m.retract(a[0], a[1]);
            case 6: return bit(m.approve(a[0], a[1]));
            case 7: return m.addShot(a[0]);
            case 8: return bit(m.pin(a[0], a[1], a[2], a[3]));
            case 9: return m.key(a[0], a[1], a[2], a[3], a[4]);
            case 10: return m.dropKey(a[0], a[1], a[2], a[3]);
            case 11: m.setLook(a[0], a[1], a[2]); return 0;
            case 12: return m.insert(a[0], a[1], a[2]);
            case 13: return m.cut(a[0], a[1], a[2]);
            case 14: m.move(a[0], a[1], a[2], a[3]); return 0;
            case 15: return bit(m.approveShot(a[0]));
            case 16: return m.addMachine(a[0], a[1]);
            case 17: return m.setDisk(a[0]);
            case 18: return m.render(a[0]);
            default: return m.dropImages(a[0]);
        }
    }

    private long plainChange(int kind, int[] a) {
        PlainStudio m = plain;
        switch (kind) {
            case 0: return m.addAsset();
            case 1: return m.content(a[0]);
            case 2: return m.constrain(a[0], a[1], a[2], a[3]);
            case 3: return m.parent(a[0], a[1]);
            case 4: return m.publish(a[0]);
            case 5: return m.retract(a[0], a[1]);
            case 6: return bit(m.approve(a[0], a[1]));
            case 7: return m.addShot(a[0]);
            case 8: return bit(m.pin(a[0], a[1], a[2], a[3]));
            case 9: return m.key(a[0], a[1], a[2], a[3], a[4]);
            case 10: return m.dropKey(a[0], a[1], a[2], a[3]);
            case 11: m.setLook(a[0], a[1], a[2]); return 0;
            case 12: return m.insert(a[0], a[1], a[2]);
            case 13: return m.cut(a[0], a[1], a[2]);
            case 14: m.move(a[0], a[1], a[2], a[3]); return 0;
            case 15: return bit(m.approveShot(a[0]));
            case 16: return m.addMachine(a[0], a[1]);
            case 17: return m.setDisk(a[0]);
            case 18: return m.render(a[0]);
            default: return m.dropImages(a[0]);
        }
    }

    private long question(int kind, int[] a) {
        Marionette m = studio;
        switch (kind) {
            case 20: return m.tick(a[0]);
            case 21: return m.note(a[0], a[1], a[2]);
            case 22: return bit(m.close(a[0]));
            case 23: return m.work(a[0], a[1], a[2]);
            case 24: return m.deliver(a[0], a[1]);
            case 25: return m.versions(a[0]);
            case 26: return m.version(a[0], a[1], a[2]);
            case 27: return m.value(a[0], a[1], a[2], a[3], a[4], a[5]);
            case 28: return m.shot(a[0], a[1]);
            case 29: return m.frame(a[0], a[1]);
            case 30: return m.channel(a[0], a[1], a[2], a[3]);
            case 31: return m.image(a[0], a[1]);
            case 32: return m.stored(a[0], a[1]);
            case 33: return bit(m.isCurrent(a[0], a[1]));
            case 34: return m.where(a[0], a[1]);
            case 35: return m.machine(a[0], a[1]);
            case 36: return m.count(a[0]);
            case 37: return m.placeOf(a[0]);
            default: return m.delivered(a[0], a[1]);
        }
    }

    private long plainAnswer(int kind, int[] a) {
        PlainStudio m = plain;
        switch (kind) {
            case 20: return m.tick(a[0]);
            case 21: return m.note(a[0], a[1], a[2]);
            case 22: return bit(m.close(a[0]));
            case 23: return m.work(a[0], a[1], a[2]);
            case 24: return m.deliver(a[0], a[1]);
            case 25: return m.versions(a[0]);
            case 26: return m.version(a[0], a[1], a[2]);
            case 27: return m.value(a[0], a[1], a[2], a[3], a[4], a[5]);
            case 28: return m.shot(a[0], a[1]);
            case 29: return m.frame(a[0], a[1]);
            case 30: return m.channel(a[0], a[1], a[2], a[3]);
            case 31: return m.image(a[0], a[1]);
            case 32: return m.stored(a[0], a[1]);
            case 33: return bit(m.isCurrent(a[0], a[1]));
            case 34: return m.where(a[0], a[1]);
            case 35: return m.machine(a[0], a[1]);
            case 36: return m.count(a[0]);
            case 37: return m.placeOf(a[0]);
            default: return m.delivered(a[0], a[1]);
        }
    }
}
