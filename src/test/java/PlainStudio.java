import java.util.ArrayList;
import java.util.Arrays;
import java.util.HashMap;
import java.util.HashSet;
import java.util.Iterator;
import java.util.LinkedHashMap;
import java.util.List;
import java.util.Map;
import java.util.Set;

/**
 * The document told a second time, with the Java library and in other forms: RandomRunsTest compares the answers.
 * A frame is a text "shot.name" here, and what a frame has stands in maps by that text.
 */
final class PlainStudio {
    private record Constraint(int kind, int target, int source, int number) { }

    private static final class Version {
        int content;
        final List<Constraint> constraints = new ArrayList<>();
        final List<Version> parents = new ArrayList<>();
        boolean retracted;
        boolean approved;

        int height() {
            return 1 + parents.stream().mapToInt(Version::height).max().orElse(0);
        }

        boolean standsOn(Version other) {
            return this == other || parents.stream().anyMatch(p -> p.standsOn(other));
        }
    }

    private static final class Shot {
        final List<Integer> names = new ArrayList<>();
        int nextName;
        final Version[] pins = new Version[4];
        final Map<String, Integer> keys = new HashMap<>();
        int colour;
        int size = 1;
        boolean approved;
        int bid;
        int hours;
    }

    private static final class Machine {
        int speed;
        int weakness;
        String frame;
        int ticks;
        int tries;
        boolean looked;
    }

    private static final class Note {
        String frame;
        int weight;
        boolean open = true;
    }

    private record Made(int image, int space, List<Object> of) { }

    private record Waiting(String frame, int tries) { }

    private final List<List<Version>> assets = new ArrayList<>();
    private Version draft = new Version();
    private final List<Shot> shots = new ArrayList<>();
    private final List<Machine> machines = new ArrayList<>();
    private final List<Waiting> queue = new ArrayList<>();
    private final Map<String, Made> images = new HashMap<>();
    private final List<Note> notes = new ArrayList<>();
    private final List<List<Integer>> deliveries = new ArrayList<>();
    private final Map<List<Object>, Integer> cache = new LinkedHashMap<>();
    private int hits;
    private int makings;
    private int failed;
    private int givenUp;
    private int room = 200;

    private static void index(boolean there) {
        if (!there) {
            throw new IndexOutOfBoundsException();
        }
    }

    private static void argument(boolean fine) {
        if (!fine) {
            throw new IllegalArgumentException();
        }
    }

    private static void state(boolean fine) {
        if (!fine) {
            throw new IllegalStateException();
        }
    }

    private static boolean in(long number, long least, long greatest) {
        return least <= number && number <= greatest;
    }

    private Version find(int asset, int version) {
        index(in(asset, 0, assets.size() - 1) && in(version, 1, assets.get(asset).size()));
        return assets.get(asset).get(version - 1);
    }

    private Shot find(int shot) {
        index(in(shot, 0, shots.size() - 1));
        return shots.get(shot);
    }

    private String findFrame(int shot, int place) {
        index(in(place, 0, find(shot).names.size() - 1));
        return shot + "." + find(shot).names.get(place);
    }

    private static int shotOf(String frame) {
        return Integer.parseInt(frame.substring(0, frame.indexOf('.')));
    }

    private static int nameOf(String frame) {
        return Integer.parseInt(frame.substring(frame.indexOf('.') + 1));
    }

    private int placeOf(String frame) {
        return shots.get(shotOf(frame)).names.indexOf(nameOf(frame));
    }

    int addAsset() {
        state(assets.size() < 10);
        assets.add(new ArrayList<>());
        return assets.size() - 1;
    }

    int content(int content) {
        argument(in(content, 0, 999));
        int before = draft.content;
        draft.content = content;
        return before;
    }

    int constrain(int kind, int target, int source, int number) {
        index(in(target, 0, 3) && in(source, 0, 3));
        argument(kind == 2 && in(number, -8, 8) || kind == 3 && in(number, 0, 999) || in(kind, 0, 1) && number == 0);
        state(draft.constraints.size() < 6);
        draft.constraints.add(new Constraint(kind, target, source, number));
        return draft.constraints.size();
    }

    int parent(int asset, int version) {
        Version parent = find(asset, version);
        state(draft.parents.size() < 3 && parent.height() < 4);
        draft.parents.add(parent);
        return draft.parents.size();
    }

    int publish(int asset) {
        index(in(asset, 0, assets.size() - 1));
        state(assets.get(asset).size() < 6 && draft.parents.stream().noneMatch(p -> p.retracted));
        assets.get(asset).add(draft);
        draft = new Version();
        return assets.get(asset).size();
    }

    int retract(int asset, int version) {
        Version gone = find(asset, version);
        state(!gone.retracted);
        gone.retracted = true;
        int fallen = 0;
        for (List<Version> each : assets) {
            for (Version v : each) {
                if (v.approved && v.standsOn(gone)) {
                    v.approved = false;
                    fallen++;
                }
            }
        }
        for (Shot shot : shots) {
            if (shot.approved && Arrays.stream(shot.pins).anyMatch(p -> p != null && p.standsOn(gone))) {
                shot.approved = false;
                fallen++;
            }
        }
        return fallen;
    }

    boolean approve(int asset, int version) {
        Version v = find(asset, version);
        state(!v.retracted && v.parents.stream().allMatch(p -> p.approved));
        boolean before = v.approved;
        v.approved = true;
        return before;
    }

    int addShot(int frames) {
        argument(in(frames, 1, 16));
        state(shots.size() < 5);
        Shot shot = new Shot();
        for (int i = 0; i < frames; i++) {
            shot.names.add(shot.nextName++);
        }
        shots.add(shot);
        return shots.size() - 1;
    }

    boolean pin(int shot, int slot, int asset, int version) {
        Shot s = find(shot);
        index(in(slot, 0, 3));
        Version v = asset == -1 ? null : find(asset, version);
        state(v == null || !v.retracted);
        boolean before = s.pins[slot] != null;
        s.pins[slot] = v;
        s.approved = false;
        return before;
    }

    private static String keyOf(int slot, int channel, int name) {
        return slot + "/" + channel + "/" + name;
    }

    private String findKey(int shot, int slot, int channel, int place) {
        Shot s = find(shot);
        index(in(slot, 0, 3) && in(channel, 0, 3) && in(place, 0, s.names.size() - 1));
        return keyOf(slot, channel, s.names.get(place));
    }

    int key(int shot, int slot, int channel, int place, int value) {
        String key = findKey(shot, slot, channel, place);
        Shot s = find(shot);
        argument(in(value, -9999, 9999));
        state(s.keys.size() < 20 || s.keys.containsKey(key));
        s.keys.put(key, value);
        s.approved = false;
        return s.keys.size();
    }

    int dropKey(int shot, int slot, int channel, int place) {
        String key = findKey(shot, slot, channel, place);
        Shot s = find(shot);
        state(s.keys.containsKey(key));
        s.keys.remove(key);
        s.approved = false;
        return s.keys.size();
    }

    void setLook(int shot, int colour, int size) {
        Shot s = find(shot);
        argument(in(colour, 0, 2) && in(size, 1, 4));
        s.colour = colour;
        s.size = size;
        s.approved = false;
    }

    int insert(int shot, int place, int many) {
        Shot s = find(shot);
        index(in(place, 0, s.names.size()));
        argument(in(many, 1, 16));
        state(s.names.size() + many <= 16);
        for (int i = 0; i < many; i++) {
            s.names.add(place + i, s.nextName++);
        }
        s.approved = false;
        return s.names.size();
    }

    int cut(int shot, int place, int many) {
        Shot s = find(shot);
        index(in(place, 0, s.names.size() - 1));
        argument(many >= 1 && (long) place + many <= s.names.size());
        state(many < s.names.size());
        for (int i = 0; i < many; i++) {
            String frame = findFrame(shot, place);
            int name = s.names.remove(place);
            s.keys.keySet().removeIf(k -> k.endsWith("/" + name));
            images.remove(frame);
            queue.removeIf(w -> w.frame.equals(frame));
            machines.stream().filter(m -> frame.equals(m.frame)).forEach(PlainStudio::free);
            notes.stream().filter(n -> n.frame.equals(frame)).forEach(n -> n.open = false);
        }
        s.approved = false;
        return s.names.size();
    }

    private static void free(Machine machine) {
        machine.frame = null;
        machine.ticks = 0;
    }

    void move(int shot, int place, int many, int to) {
        Shot s = find(shot);
        index(in(place, 0, s.names.size() - 1));
        argument(many >= 1 && (long) place + many <= s.names.size() && in(to, 0, s.names.size() - many));
        List<Integer> part = new ArrayList<>(s.names.subList(place, place + many));
        s.names.removeAll(part);
        s.names.addAll(to, part);
        s.approved = false;
    }

    boolean approveShot(int shot) {
        Shot s = find(shot);
        state(pinned(s) > 0 && Arrays.stream(s.pins).allMatch(p -> p == null || p.approved) && open(shot, 2) == 0);
        boolean before = s.approved;
        s.approved = true;
        return before;
    }

    private static long pinned(Shot s) {
        return Arrays.stream(s.pins).filter(p -> p != null).count();
    }

    private int open(int shot, int least) {
        return (int) notes.stream().filter(n -> n.open && n.weight >= least && shotOf(n.frame) == shot).count();
    }

    int addMachine(int speed, int weakness) {
        argument(in(speed, 1, 3) && in(weakness, 0, 6));
        state(machines.size() < 4);
        Machine machine = new Machine();
        machine.speed = speed;
        machine.weakness = weakness;
        machines.add(machine);
        return machines.size() - 1;
    }

    int setDisk(int newRoom) {
        argument(in(newRoom, 0, 999));
        int before = room;
        room = newRoom;
        return before;
    }

    int render(int shot) {
        int many = 0;
        for (int place = 0; place < find(shot).names.size(); place++) {
            if (where(shot, place) == 0 && !isCurrent(shot, place)) {
                queue.add(new Waiting(findFrame(shot, place), 0));
                many++;
            }
        }
        return many;
    }

    int dropImages(int shot) {
        find(shot);
        int before = images.size();
        images.keySet().removeIf(f -> shotOf(f) == shot);
        return before - images.size();
    }

    int tick(int ticks) {
        argument(in(ticks, 1, 30));
        int stored = 0;
        for (int i = 0; i < ticks; i++) {
            for (int m = 0; m < machines.size(); m++) {
                stored += turn(m) ? 1 : 0;
            }
            for (Machine machine : machines) {
                if (machine.frame == null && !queue.isEmpty()) {
                    Waiting first = queue.remove(0);
                    machine.frame = first.frame;
                    machine.tries = first.tries;
                    machine.looked = false;
                    long work = 1 + pinned(shots.get(shotOf(first.frame)));
                    machine.ticks = (int) (work / machine.speed + (work % machine.speed == 0 ? 0 : 1));
                }
            }
        }
        return stored;
    }

    private boolean turn(int number) {
        Machine machine = machines.get(number);
        if (machine.frame == null) {
            return false;
        }
        if (machine.ticks > 0) {
            machine.ticks--;
        }
        if (machine.ticks > 0) {
            return false;
        }
        String frame = machine.frame;
        int shot = shotOf(frame);
        if (!machine.looked) {
            machine.looked = true;
            machine.tries++;
            if ((7 * shot + 5 * nameOf(frame) + 3 * machine.tries + number) % 7 < machine.weakness) {
                failed++;
                free(machine);
                if (machine.tries == 3) {
                    givenUp++;
                } else {
                    queue.add(new Waiting(frame, machine.tries));
                }
                return false;
            }
        }
        int others = images.entrySet().stream().filter(e -> !e.getKey().equals(frame)).mapToInt(e -> e.getValue().space).sum();
        int space = new int[] {12, 6, 4, 3}[shots.get(shot).size - 1];
        if (others + space > room) {
            return false;
        }
        int place = placeOf(frame);
        images.put(frame, new Made(image(shot, place, true), space, madeOf(shot, place)));
        free(machine);
        return true;
    }

    int note(int shot, int place, int weight) {
        String frame = findFrame(shot, place);
        argument(in(weight, 0, 2));
        state(notes.size() < 30);
        Note note = new Note();
        note.frame = frame;
        note.weight = weight;
        notes.add(note);
        return notes.size() - 1;
    }

    boolean close(int note) {
        index(in(note, 0, notes.size() - 1));
        boolean before = notes.get(note).open;
        notes.get(note).open = false;
        return before;
    }

    int work(int shot, int bid, int hours) {
        Shot s = find(shot);
        argument(in(bid, 0, 999) && in(hours, 0, 99));
        s.bid = bid;
        s.hours += hours;
        return s.hours;
    }

    int deliver(int shot, int colour) {
        Shot s = find(shot);
        argument(in(colour, 0, 2));
        state(deliveries.size() < 20);
        List<Integer> kept = new ArrayList<>();
        boolean allCurrent = true;
        for (int place = 0; place < s.names.size(); place++) {
            allCurrent &= isCurrent(shot, place);
            kept.add(stored(shot, place));
        }
        boolean[] refused = {!s.approved, s.colour != colour, !allCurrent, open(shot, 1) > 0, s.bid > 0 && s.hours > s.bid};
        for (int i = 0; i < refused.length; i++) {
            if (refused[i]) {
                return i + 1;
            }
        }
        deliveries.add(kept);
        return 0;
    }

    int versions(int asset) {
        index(in(asset, 0, assets.size() - 1));
        return assets.get(asset).size();
    }

    int version(int asset, int version, int what) {
        Version v = find(asset, version);
        argument(in(what, 0, 5));
        return new int[] {v.content, v.height(), v.constraints.size(), v.parents.size(),
            v.retracted ? 1 : 0, v.approved ? 1 : 0}[what];
    }

    int value(int asset, int version, int zero, int one, int two, int three) {
        Version v = find(asset, version);
        List<Integer> channels = List.of(zero, one, two, three);
        argument(channels.stream().allMatch(c -> in(c, -9999, 9999)));
        return value(v, channels, false);
    }

    private int value(Version v, List<Integer> channels, boolean asking) {
        List<Object> asked = List.of(v, channels);
        if (asking && cache.containsKey(asked)) {
            hits++;
            return cache.get(asked);
        }
        List<Integer> now = new ArrayList<>(channels);
        for (Constraint c : v.constraints) {
            int target = now.get(c.target);
            int source = now.get(c.source);
            double wished = switch (c.kind) {
                case 0 -> source;
                case 1 -> target + source;
                case 2 -> source * c.number / 4.0;
                default -> Math.max(-c.number, Math.min(target, c.number));
            };
            now.set(c.target, (int) Math.max(-9999, Math.min(9999, wished)));
        }
        long sum = 31L * v.content;
        for (int c = 0; c < 4; c++) {
            sum += (c + 1) * (now.get(c) + 10000L);
        }
        for (int p = 0; p < v.parents.size(); p++) {
            sum += 7L * (p + 1) * value(v.parents.get(p), now, asking);
        }
        int value = (int) (sum % 99991);
        if (asking) {
            makings++;
            cache.put(asked, value);
            if (cache.size() > 60) {
                Iterator<List<Object>> all = cache.keySet().iterator();
                all.next();
                all.remove();
            }
        }
        return value;
    }

    int shot(int shot, int what) {
        Shot s = find(shot);
        argument(in(what, 0, 7));
        return new int[] {s.names.size(), s.keys.size(), s.colour, s.size, s.approved ? 1 : 0, s.bid, s.hours, open(shot, 0)}[what];
    }

    int frame(int shot, int place) {
        return nameOf(findFrame(shot, place));
    }

    int channel(int shot, int slot, int channel, int place) {
        findKey(shot, slot, channel, place);
        Shot s = find(shot);
        List<Integer> places = new ArrayList<>();
        for (int i = 0; i < s.names.size(); i++) {
            if (s.keys.containsKey(keyOf(slot, channel, s.names.get(i)))) {
                places.add(i);
            }
        }
        if (places.isEmpty()) {
            return 0;
        }
        int first = places.stream().filter(p -> p <= place).reduce((a, b) -> b).orElse(places.get(0));
        int next = places.stream().filter(p -> p > place).findFirst().orElse(first);
        int has = s.keys.get(keyOf(slot, channel, s.names.get(first)));
        int then = s.keys.get(keyOf(slot, channel, s.names.get(next)));
        // Ahead of the first key first and next are the same one, as behind the last one.
        return first == next ? has : has + (int) ((double) ((then - has) * (place - first)) / (next - first));
    }

    int image(int shot, int place) {
        findFrame(shot, place);
        return image(shot, place, false);
    }

    private List<Integer> channels(int shot, int slot, int place) {
        List<Integer> all = new ArrayList<>();
        for (int c = 0; c < 4; c++) {
            all.add(channel(shot, slot, c, place));
        }
        return all;
    }

    private int image(int shot, int place, boolean asking) {
        Shot s = find(shot);
        long sum = 0;
        for (int slot = 0; slot < 4; slot++) {
            if (s.pins[slot] != null) {
                sum += (slot + 1L) * value(s.pins[slot], channels(shot, slot, place), asking);
            }
        }
        long coloured = new long[] {sum, 3 * sum + 7, 5 * sum + 11}[s.colour];
        return (int) (Math.floorDiv(coloured, (long) s.size) % 99991);
    }

    private List<Object> madeOf(int shot, int place) {
        Shot s = find(shot);
        List<Object> of = new ArrayList<>(List.of(s.colour, s.size));
        for (int slot = 0; slot < 4; slot++) {
            of.add(s.pins[slot]);
            of.add(s.pins[slot] == null ? null : channels(shot, slot, place));
        }
        return of;
    }

    int stored(int shot, int place) {
        Made made = images.get(findFrame(shot, place));
        return made == null ? -1 : made.image;
    }

    boolean isCurrent(int shot, int place) {
        Made made = images.get(findFrame(shot, place));
        return made != null && made.of.equals(madeOf(shot, place));
    }

    int where(int shot, int place) {
        String frame = findFrame(shot, place);
        Set<Integer> found = new HashSet<>();
        for (int m = 0; m < machines.size(); m++) {
            if (frame.equals(machines.get(m).frame)) {
                found.add(10 + m);
            }
        }
        if (queue.stream().anyMatch(w -> w.frame.equals(frame))) {
            found.add(1);
        }
        return found.isEmpty() ? 0 : found.iterator().next();
    }

    int machine(int machine, int what) {
        index(in(machine, 0, machines.size() - 1));
        argument(in(what, 0, 2));
        Machine m = machines.get(machine);
        if (what == 2) {
            return m.ticks;
        }
        if (m.frame == null) {
            return -1;
        }
        return what == 0 ? shotOf(m.frame) : nameOf(m.frame);
    }

    int count(int what) {
        argument(in(what, 0, 7));
        int used = images.values().stream().mapToInt(Made::space).sum();
        return new int[] {queue.size(), hits, makings, cache.size(), failed, givenUp, room - used, deliveries.size()}[what];
    }

    int placeOf(int note) {
        index(in(note, 0, notes.size() - 1));
        return placeOf(notes.get(note).frame);
    }

    int delivered(int delivery, int place) {
        index(in(delivery, 0, deliveries.size() - 1));
        argument(place >= 0);
        return place < deliveries.get(delivery).size() ? deliveries.get(delivery).get(place) : -1;
    }
}
