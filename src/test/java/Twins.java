import java.util.ArrayList;
import java.util.List;

/**
 * Two objects with the same calls behind them, of which one was asked for something more that was refused:
 * all that can be asked, and all that goes on from there, is to be answered alike.
 */
final class Twins {
    interface Ask {
        long of(Marionette m);
    }

    private record Probe(String what, Ask ask) { }

    /** Rows of calls; each row begins with new twins, and keeps them well below 512 calls, behind which all is free. */
    private static final List<List<Probe>> ROWS = rows();

    private Twins() {
    }

    /** What is answered otherwise behind the call that was refused; nothing if all is alike. */
    static String difference(Stories.Story story, Stories.Act refused) {
        for (List<Probe> row : ROWS) {
            Marionette one = story.make();
            answer(m -> {
                refused.on(m);
                return 0;
            }, one);
            Marionette other = story.make();
            for (Probe probe : row) {
                String got = answer(probe.ask, one);
                String due = answer(probe.ask, other);
                if (!got.equals(due)) {
                    return probe.what + ": " + got + ", without the call " + due;
                }
            }
        }
        return "";
    }

    private static String answer(Ask ask, Marionette m) {
        try {
            return Long.toString(ask.of(m));
        } catch (RuntimeException e) {
            return e.getClass().getSimpleName();
        }
    }

    private static int bit(boolean so) {
        return so ? 1 : 0;
    }

    private static List<List<Probe>> rows() {
        List<List<Probe>> rows = new ArrayList<>(List.of(versions(0, 4), versions(5, 9), machines(), notes(),
            draft(), ticks(), renders(), approvals(), edits(), more()));
        for (int shot = 0; shot < 5; shot++) {
            rows.add(frames(shot));
            rows.add(channels(shot));
        }
        return rows;
    }

    private static void add(List<Probe> row, String what, Ask ask) {
        row.add(new Probe(what, ask));
    }

    private static List<Probe> versions(int firstAsset, int lastAsset) {
        List<Probe> row = new ArrayList<>();
        for (int asset = firstAsset; asset <= lastAsset; asset++) {
            int a = asset;
            add(row, "versions " + a, m -> m.versions(a));
            for (int version = 1; version <= 6; version++) {
                int v = version;
                for (int what = 0; what < 6; what++) {
                    int w = what;
                    add(row, "version " + a + " " + v + " " + w, m -> m.version(a, v, w));
                }
                add(row, "value " + a + " " + v, m -> m.value(a, v, 3, -5, 700, -90));
            }
        }
        return row;
    }

    private static List<Probe> frames(int s) {
        List<Probe> row = new ArrayList<>();
        for (int what = 0; what < 8; what++) {
            int w = what;
            add(row, "shot " + s + " " + w, m -> m.shot(s, w));
        }
        for (int place = 0; place < 16; place++) {
            int p = place;
            add(row, "frame " + s + " " + p, m -> m.frame(s, p));
            add(row, "image " + s + " " + p, m -> m.image(s, p));
            add(row, "stored " + s + " " + p, m -> m.stored(s, p));
            add(row, "isCurrent " + s + " " + p, m -> bit(m.isCurrent(s, p)));
            add(row, "where " + s + " " + p, m -> m.where(s, p));
        }
        return row;
    }

    private static List<Probe> channels(int s) {
        List<Probe> row = new ArrayList<>();
        for (int place = 0; place < 16; place++) {
            int p = place;
            for (int line = 0; line < 16; line++) {
                int slot = line / 4;
                int c = line % 4;
                add(row, "channel " + s + " " + slot + " " + c + " " + p, m -> m.channel(s, slot, c, p));
            }
        }
        return row;
    }

    private static List<Probe> machines() {
        List<Probe> row = new ArrayList<>();
        addCounts(row);
        return row;
    }

    private static void addCounts(List<Probe> row) {
        for (int what = 0; what < 8; what++) {
            int w = what;
            add(row, "count " + w, m -> m.count(w));
        }
        for (int machine = 0; machine < 4; machine++) {
            for (int what = 0; what < 3; what++) {
                int n = machine;
                int w = what;
                add(row, "machine " + n + " " + w, m -> m.machine(n, w));
            }
        }
    }

    private static List<Probe> notes() {
        List<Probe> row = new ArrayList<>();
        for (int note = 0; note < 30; note++) {
            int n = note;
            add(row, "placeOf " + n, m -> m.placeOf(n));
        }
        for (int delivery = 0; delivery < 20; delivery++) {
            int d = delivery;
            for (int place = 0; place < 3; place++) {
                int p = place;
                add(row, "delivered " + d + " " + p, m -> m.delivered(d, p));
            }
        }
        for (int note = 0; note < 30; note++) {
            int n = note;
            add(row, "close " + n, m -> bit(m.close(n)));
        }
        return row;
    }

    private static List<Probe> draft() {
        List<Probe> row = new ArrayList<>();
        add(row, "content", m -> m.content(123));
        add(row, "content again", m -> m.content(0));
        for (int asset = 0; asset < 10; asset++) {
            int a = asset;
            add(row, "publish " + a, m -> m.publish(a));
        }
        add(row, "parent", m -> m.parent(0, 1));
        add(row, "constrain", m -> m.constrain(0, 0, 1, 0));
        row.addAll(versions(0, 4));
        return row;
    }

    private static List<Probe> ticks() {
        List<Probe> row = new ArrayList<>();
        add(row, "setDisk", m -> m.setDisk(999));
        for (int tick = 0; tick < 12; tick++) {
            add(row, "tick " + tick, m -> m.tick(1));
            addCounts(row);
        }
        return row;
    }

    private static List<Probe> renders() {
        List<Probe> row = new ArrayList<>();
        for (int shot = 0; shot < 5; shot++) {
            int s = shot;
            add(row, "dropImages " + s, m -> m.dropImages(s));
            add(row, "render " + s, m -> m.render(s));
        }
        add(row, "disk", m -> m.count(6));
        add(row, "setDisk", m -> m.setDisk(400));
        for (int tick = 0; tick < 6; tick++) {
            add(row, "ticks " + tick, m -> m.tick(30));
            addCounts(row);
        }
        return row;
    }

    private static List<Probe> approvals() {
        List<Probe> row = new ArrayList<>();
        for (int shot = 0; shot < 5; shot++) {
            for (int colour = 0; colour < 3; colour++) {
                int s = shot;
                int c = colour;
                add(row, "deliver " + s + " " + c, m -> m.deliver(s, c));
            }
        }
        for (int version = 1; version <= 6; version++) {
            int v = version;
            add(row, "approve 0 " + v, m -> bit(m.approve(0, v)));
            add(row, "approve 1 " + v, m -> bit(m.approve(1, v)));
        }
        for (int shot = 0; shot < 5; shot++) {
            int s = shot;
            add(row, "approveShot " + s, m -> bit(m.approveShot(s)));
        }
        add(row, "retract 0 1", m -> m.retract(0, 1));
        add(row, "retract 1 1", m -> m.retract(1, 1));
        return row;
    }

    private static List<Probe> edits() {
        List<Probe> row = new ArrayList<>();
        for (int shot = 0; shot < 5; shot++) {
            int s = shot;
            add(row, "insert " + s, m -> m.insert(s, 1, 1));
            add(row, "its name " + s, m -> m.frame(s, 1));
            add(row, "cut " + s, m -> m.cut(s, 1, 1));
            add(row, "key " + s, m -> m.key(s, 3, 3, 0, 1));
            add(row, "dropKey " + s, m -> m.dropKey(s, 3, 3, 0));
            for (int slot = 0; slot < 4; slot++) {
                int of = slot;
                add(row, "pin " + s + " " + of, m -> bit(m.pin(s, of, -1, 0)));
            }
        }
        return row;
    }

    private static List<Probe> more() {
        List<Probe> row = new ArrayList<>();
        add(row, "addAsset", m -> m.addAsset());
        add(row, "addShot", m -> m.addShot(2));
        add(row, "addMachine", m -> m.addMachine(1, 1));
        add(row, "setDisk", m -> m.setDisk(5));
        add(row, "note", m -> m.note(0, 0, 1));
        add(row, "work 0", m -> m.work(0, 1, 1));
        add(row, "work 1", m -> m.work(1, 1, 1));
        return row;
    }
}
