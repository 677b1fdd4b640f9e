/** The pipeline of an animation studio, as the promises of the document say it. */
public final class Marionette {
    private static final int MAX_ASSETS = 10;
    private static final int MAX_VERSIONS = 6;
    private static final int MAX_CONTENT = 999;
    private static final int MAX_CONSTRAINTS = 6;
    private static final int MAX_PARENTS = 3;
    private static final int MAX_HEIGHT = 4;
    private static final int MAX_SHOTS = 5;
    private static final int MAX_FRAMES = 16;
    private static final int MAX_KEYS = 20;
    private static final int MAX_COLOUR = 2;
    private static final int MAX_SIZE = 4;
    private static final int MAX_MACHINES = 4;
    private static final int MAX_SPEED = 3;
    private static final int MAX_WEAKNESS = 6;
    private static final int MAX_ROOM = 999;
    private static final int FIRST_ROOM = 200;
    private static final int MAX_TICKS = 30;
    private static final int MAX_TRIES = 3;
    private static final int MAX_NOTES = 30;
    private static final int MAX_WEIGHT = 2;
    private static final int MAX_BID = 999;
    private static final int MAX_HOURS = 99;
    private static final int MAX_DELIVERIES = 20;
    private static final int MAX_CACHED = 60;

    private static final int CHANNELS = 4;
    private static final int SLOTS = 4;
    private static final int CHANNEL_BOUND = 9999;
    private static final int MODULUS = 99991;
    private static final int IMAGE_SPACE = 12;

    private static final int COPY = 0;
    private static final int ADD = 1;
    private static final int SCALE = 2;
    private static final int LIMIT = 3;
    private static final int MAX_FACTOR = 8;
    private static final int SCALE_DIVISOR = 4;
    private static final int MAX_LIMIT = 999;

    private static final int NOWHERE = 0;
    private static final int IN_QUEUE = 1;
    private static final int ON_MACHINE = 10;
    private static final int NONE = -1;

    private final Asset[] assets;
    private int assetCount;
    private final Version[] published;
    private int publishedCount;
    private Version draft;
    private final Shot[] shots;
    private int shotCount;
    private final Cache cache;
    private final Farm farm;
    private final Note[] notes;
    private int noteCount;
    private final Delivery[] deliveries;
    private int deliveryCount;

    public Marionette() {
        assets = new Asset[MAX_ASSETS];
        published = new Version[MAX_ASSETS * MAX_VERSIONS];
        draft = new Version();
        shots = new Shot[MAX_SHOTS];
        cache = new Cache();
        farm = new Farm(cache);
        notes = new Note[MAX_NOTES];
        deliveries = new Delivery[MAX_DELIVERIES];
    }

    // ---- assets

    public int addAsset() throws IllegalStateException {
        requireState(assetCount < MAX_ASSETS);
        assets[assetCount] = new Asset();
        assetCount++;
        return assetCount - 1;
    }

    public int content(int content) throws IllegalArgumentException {
        requireRange(content, 0, MAX_CONTENT);
        int before = draft.content;
        draft.content = content;
        return before;
    }

    public int constrain(int kind, int target, int source, int number)
            throws IndexOutOfBoundsException, IllegalArgumentException, IllegalStateException {
        requireIndex(target, CHANNELS);
        requireIndex(source, CHANNELS);
        requireRange(kind, COPY, LIMIT);
        requireRange(number, leastNumber(kind), greatestNumber(kind));
        requireState(draft.constraintCount < MAX_CONSTRAINTS);
        draft.addConstraint(new Constraint(kind, target, source, number));
        return draft.constraintCount;
    }

    public int parent(int asset, int version) throws IndexOutOfBoundsException, IllegalStateException {
        Version parent = versionAt(asset, version);
        requireState(draft.parentCount < MAX_PARENTS && parent.height < MAX_HEIGHT);
        draft.addParent(parent);
        return draft.parentCount;
    }

    public int publish(int asset) throws IndexOutOfBoundsException, IllegalStateException {
        Asset owner = assetAt(asset);
        requireState(owner.versionCount < MAX_VERSIONS && !draft.hasRetractedParent());
        owner.addVersion(draft);
        published[publishedCount] = draft;
        publishedCount++;
        draft = new Version();
        return owner.versionCount;
    }

    public int retract(int asset, int version) throws IndexOutOfBoundsException, IllegalStateException {
        Version retracted = versionAt(asset, version);
        requireState(!retracted.retracted);
        retracted.retracted = true;
        markWhatStandsOn(retracted);
        return dropMarkedVersions() + dropShotsOnMarked();
    }

    public boolean approve(int asset, int version) throws IndexOutOfBoundsException, IllegalStateException {
        Version approved = versionAt(asset, version);
        requireState(approved.mayBeApproved());
        boolean before = approved.approved;
        approved.approved = true;
        return before;
    }

    // ---- shots

    public int addShot(int frames) throws IllegalArgumentException, IllegalStateException {
        requireRange(frames, 1, MAX_FRAMES);
        requireState(shotCount < MAX_SHOTS);
        shots[shotCount] = Shot.withFrames(shotCount, frames);
        shotCount++;
        return shotCount - 1;
    }

    public boolean pin(int shot, int slot, int asset, int version)
            throws IndexOutOfBoundsException, IllegalStateException {
        Shot pinning = shotAt(shot);
        requireIndex(slot, SLOTS);
        Version pinned = asset == NONE ? null : versionAt(asset, version);
        requireState(pinned == null || !pinned.retracted);
        boolean before = pinning.pins[slot] != null;
        pinning.pins[slot] = pinned;
        pinning.approved = false;
        return before;
    }

    public int key(int shot, int slot, int channel, int place, int value)
            throws IndexOutOfBoundsException, IllegalArgumentException, IllegalStateException {
        Shot keyed = shotAt(shot);
        requireIndex(slot, SLOTS);
        requireIndex(channel, CHANNELS);
        Frame at = frameAt(keyed, place);
        requireRange(value, -CHANNEL_BOUND, CHANNEL_BOUND);
        int line = lineOf(slot, channel);
        requireState(at.keyed[line] || keyed.keyCount < MAX_KEYS);
        keyed.setKey(at, line, value);
        return keyed.keyCount;
    }

    public int dropKey(int shot, int slot, int channel, int place)
            throws IndexOutOfBoundsException, IllegalStateException {
        Shot keyed = shotAt(shot);
        requireIndex(slot, SLOTS);
        requireIndex(channel, CHANNELS);
        Frame at = frameAt(keyed, place);
        int line = lineOf(slot, channel);
        requireState(at.keyed[line]);
        keyed.removeKey(at, line);
        return keyed.keyCount;
    }

    public void setLook(int shot, int colour, int size)
            throws IndexOutOfBoundsException, IllegalArgumentException {
        Shot looking = shotAt(shot);
        requireRange(colour, 0, MAX_COLOUR);
        requireRange(size, 1, MAX_SIZE);
        looking.colour = colour;
        looking.size = size;
        looking.approved = false;
    }

    public int insert(int shot, int place, int many)
            throws IndexOutOfBoundsException, IllegalArgumentException, IllegalStateException {
        Shot edited = shotAt(shot);
        requireIndex(place, edited.frameCount + 1);
        requireRange(many, 1, MAX_FRAMES);
        requireState(edited.frameCount + many <= MAX_FRAMES);
        edited.putFrames(place, many);
        return edited.frameCount;
    }

    public int cut(int shot, int place, int many)
            throws IndexOutOfBoundsException, IllegalArgumentException, IllegalStateException {
        Shot edited = shotAt(shot);
        requireIndex(place, edited.frameCount);
        requireRange(many, 1, edited.frameCount - place);
        requireState(many < edited.frameCount);
        for (int at = place; at < place + many; at++) {
            forgetFrame(edited, edited.row[at]);
        }
        edited.takeFrames(place, many);
        return edited.frameCount;
    }

    public void move(int shot, int place, int many, int to)
            throws IndexOutOfBoundsException, IllegalArgumentException {
        Shot edited = shotAt(shot);
        requireIndex(place, edited.frameCount);
        requireRange(many, 1, edited.frameCount - place);
        requireRange(to, 0, edited.frameCount - many);
        edited.moveFrames(place, many, to);
        edited.approved = false;
    }

    public boolean approveShot(int shot) throws IndexOutOfBoundsException, IllegalStateException {
        Shot approved = shotAt(shot);
        requireState(approved.pinsApprovedOnly() && openNotes(approved, MAX_WEIGHT) == 0);
        boolean before = approved.approved;
        approved.approved = true;
        return before;
    }

    // ---- machines

    public int addMachine(int speed, int weakness) throws IllegalArgumentException, IllegalStateException {
        requireRange(speed, 1, MAX_SPEED);
        requireRange(weakness, 0, MAX_WEAKNESS);
        requireState(farm.machineCount < MAX_MACHINES);
        farm.addNew(speed, weakness);
        return farm.machineCount - 1;
    }

    public int setDisk(int room) throws IllegalArgumentException {
        requireRange(room, 0, MAX_ROOM);
        int before = farm.room;
        farm.room = room;
        return before;
    }

    public int render(int shot) throws IndexOutOfBoundsException {
        Shot rendered = shotAt(shot);
        int before = farm.queued;
        for (int place = 0; place < rendered.frameCount; place++) {
            Frame wanted = rendered.row[place];
            if (wanted.station == NOWHERE && !rendered.isFresh(place)) {
                wanted.tries = 0;
                farm.putLast(wanted);
            }
        }
        return farm.queued - before;
    }

    public int dropImages(int shot) throws IndexOutOfBoundsException {
        Shot dropped = shotAt(shot);
        int many = 0;
        for (int place = 0; place < dropped.frameCount; place++) {
            if (dropped.row[place].hasImage) {
                farm.dropImageOf(dropped.row[place]);
                many++;
            }
        }
        return many;
    }

    public int tick(int ticks) throws IllegalArgumentException {
        requireRange(ticks, 1, MAX_TICKS);
        int many = 0;
        for (int passed = 0; passed < ticks; passed++) {
            many += farm.passOneTick();
        }
        return many;
    }

    // ---- notes, hours, deliveries

    public int note(int shot, int place, int weight)
            throws IndexOutOfBoundsException, IllegalArgumentException, IllegalStateException {
        Shot noted = shotAt(shot);
        Frame at = frameAt(noted, place);
        requireRange(weight, 0, MAX_WEIGHT);
        requireState(noteCount < MAX_NOTES);
        notes[noteCount] = new Note(noted, at.name, weight);
        noteCount++;
        return noteCount - 1;
    }

    public boolean close(int note) throws IndexOutOfBoundsException {
        Note closed = noteAt(note);
        boolean before = closed.open;
        closed.open = false;
        return before;
    }

    public int work(int shot, int bid, int hours) throws IndexOutOfBoundsException, IllegalArgumentException {
        Shot worked = shotAt(shot);
        requireRange(bid, 0, MAX_BID);
        requireRange(hours, 0, MAX_HOURS);
        worked.bid = bid;
        worked.hours += hours;
        return worked.hours;
    }

    public int deliver(int shot, int colour)
            throws IndexOutOfBoundsException, IllegalArgumentException, IllegalStateException {
        Shot delivered = shotAt(shot);
        requireRange(colour, 0, MAX_COLOUR);
        requireState(deliveryCount < MAX_DELIVERIES);
        int refusal = refusalOf(delivered, colour);
        if (refusal == 0) {
            deliveries[deliveryCount] = new Delivery(delivered);
            deliveryCount++;
        }
        return refusal;
    }

    // ---- what there is; nothing from here on changes anything

    public int versions(int asset) throws IndexOutOfBoundsException {
        return assetAt(asset).versionCount;
    }

    public int version(int asset, int version, int what)
            throws IndexOutOfBoundsException, IllegalArgumentException {
        Version told = versionAt(asset, version);
        switch (what) {
            case 0: return told.content;
            case 1: return told.height;
            case 2: return told.constraintCount;
            case 3: return told.parentCount;
            case 4: return oneIf(told.retracted);
            case 5: return oneIf(told.approved);
            default: throw new IllegalArgumentException("out of range");
        }
    }

    public int value(int asset, int version, int zero, int one, int two, int three)
            throws IndexOutOfBoundsException, IllegalArgumentException {
        Version asked = versionAt(asset, version);
        requireRange(zero, -CHANNEL_BOUND, CHANNEL_BOUND);
        requireRange(one, -CHANNEL_BOUND, CHANNEL_BOUND);
        requireRange(two, -CHANNEL_BOUND, CHANNEL_BOUND);
        requireRange(three, -CHANNEL_BOUND, CHANNEL_BOUND);
        return cache.plainValue(asked, zero, one, two, three);
    }

    public int shot(int shot, int what) throws IndexOutOfBoundsException, IllegalArgumentException {
        Shot told = shotAt(shot);
        switch (what) {
            case 0: return told.frameCount;
            case 1: return told.keyCount;
            case 2: return told.colour;
            case 3: return told.size;
            case 4: return oneIf(told.approved);
            case 5: return told.bid;
            case 6: return told.hours;
            case 7: return openNotes(told, 0);
            default: throw new IllegalArgumentException("out of range");
        }
    }

    public int frame(int shot, int place) throws IndexOutOfBoundsException {
        return frameAt(shotAt(shot), place).name;
    }

    public int channel(int shot, int slot, int channel, int place) throws IndexOutOfBoundsException {
        Shot asked = shotAt(shot);
        requireIndex(slot, SLOTS);
        requireIndex(channel, CHANNELS);
        requireIndex(place, asked.frameCount);
        return asked.lineAt(lineOf(slot, channel), place);
    }

    public int image(int shot, int place) throws IndexOutOfBoundsException {
        Shot asked = shotAt(shot);
        requireIndex(place, asked.frameCount);
        return cache.imageOf(asked, place, false);
    }

    public int stored(int shot, int place) throws IndexOutOfBoundsException {
        Frame asked = frameAt(shotAt(shot), place);
        return asked.hasImage ? asked.image : NONE;
    }

    public boolean isCurrent(int shot, int place) throws IndexOutOfBoundsException {
        Shot asked = shotAt(shot);
        requireIndex(place, asked.frameCount);
        return asked.isFresh(place);
    }

    public int where(int shot, int place) throws IndexOutOfBoundsException {
        return frameAt(shotAt(shot), place).station;
    }

    public int machine(int machine, int what) throws IndexOutOfBoundsException, IllegalArgumentException {
        requireIndex(machine, farm.machineCount);
        Machine told = farm.machines[machine];
        Frame held = told.frame;
        switch (what) {
            case 0: return held == null ? NONE : held.shot.number;
            case 1: return held == null ? NONE : held.name;
            case 2: return told.ticksLeft;
            default: throw new IllegalArgumentException("out of range");
        }
    }

    public int count(int what) throws IllegalArgumentException {
        switch (what) {
            case 0: return farm.queued;
            case 1: return cache.hits;
            case 2: return cache.makings;
            case 3: return cache.size;
            case 4: return farm.failedTries;
            case 5: return farm.givenUp;
            case 6: return farm.room - farm.used;
            case 7: return deliveryCount;
            default: throw new IllegalArgumentException("out of range");
        }
    }

    public int placeOf(int note) throws IndexOutOfBoundsException {
        Note asked = noteAt(note);
        return asked.shot.placeNamed(asked.name);
    }

    public int delivered(int delivery, int place) throws IndexOutOfBoundsException, IllegalArgumentException {
        requireIndex(delivery, deliveryCount);
        if (place < 0) {
            throw new IllegalArgumentException("below 0");
        }
        return deliveries[delivery].imageAt(place);
    }

    // ---- what the calls above ask and do in common

    private static void requireIndex(int index, int count) {
        if (index < 0 || index >= count) {
            throw new IndexOutOfBoundsException("no such one");
        }
    }

    private static void requireRange(int number, int least, int greatest) {
        if (number < least || number > greatest) {
            throw new IllegalArgumentException("out of range");
        }
    }

    private static void requireState(boolean allowed) {
        if (!allowed) {
            throw new IllegalStateException("not as things stand");
        }
    }

    private Asset assetAt(int asset) {
        requireIndex(asset, assetCount);
        return assets[asset];
    }

    private Version versionAt(int asset, int version) {
        Asset owner = assetAt(asset);
        if (version < 1 || version > owner.versionCount) {
            throw new IndexOutOfBoundsException("no such version");
        }
        return owner.versions[version - 1];
    }

    private Shot shotAt(int shot) {
        requireIndex(shot, shotCount);
        return shots[shot];
    }

    private static Frame frameAt(Shot shot, int place) {
        requireIndex(place, shot.frameCount);
        return shot.row[place];
    }

    private Note noteAt(int note) {
        requireIndex(note, noteCount);
        return notes[note];
    }

    private static int lineOf(int slot, int channel) {
        return slot * CHANNELS + channel;
    }

    private static int oneIf(boolean so) {
        return so ? 1 : 0;
    }

    private static int leastNumber(int kind) {
        return kind == SCALE ? -MAX_FACTOR : 0;
    }

    private static int greatestNumber(int kind) {
        if (kind == SCALE) {
            return MAX_FACTOR;
        }
        return kind == LIMIT ? MAX_LIMIT : 0;
    }

    private static int spaceOf(int size) {
        return size < 1 ? 0 : (IMAGE_SPACE + size - 1) / size;
    }

    /** Parents are always published ahead of their children, so that one pass finds all. */
    private void markWhatStandsOn(Version fallen) {
        for (int i = 0; i < publishedCount; i++) {
            Version each = published[i];
            each.marked = each == fallen || each.hasMarkedParent();
        }
    }

    private int dropMarkedVersions() {
        int many = 0;
        for (int i = 0; i < publishedCount; i++) {
            Version each = published[i];
            if (each.marked && each.approved) {
                each.approved = false;
                many++;
            }
        }
        return many;
    }

    private int dropShotsOnMarked() {
        int many = 0;
        for (int i = 0; i < shotCount; i++) {
            if (shots[i].approved && shots[i].pinsMarked()) {
                shots[i].approved = false;
                many++;
            }
        }
        return many;
    }

    private void forgetFrame(Shot shot, Frame frame) {
        farm.dropImageOf(frame);
        farm.release(frame);
        for (int i = 0; i < noteCount; i++) {
            if (notes[i].isOf(shot, frame.name)) {
                notes[i].open = false;
            }
        }
    }

    private int openNotes(Shot shot, int leastWeight) {
        int many = 0;
        for (int i = 0; i < noteCount; i++) {
            Note each = notes[i];
            if (each.open && each.shot == shot && each.weight >= leastWeight) {
                many++;
            }
        }
        return many;
    }

    private int refusalOf(Shot shot, int colour) {
        if (!shot.approved) {
            return 1;
        }
        if (shot.colour != colour) {
            return 2;
        }
        if (!shot.allFresh()) {
            return 3;
        }
        if (openNotes(shot, 1) > 0) {
            return 4;
        }
        return shot.bid != 0 && shot.hours > shot.bid ? 5 : 0;
    }

    // ---- what there is inside

    private static final class Asset {
        final Version[] versions;
        int versionCount;

        Asset() {
            versions = new Version[MAX_VERSIONS];
        }

        void addVersion(Version added) {
            versions[versionCount] = added;
            versionCount++;
        }
    }

    private static final class Constraint {
        final int kind;
        final int target;
        final int source;
        final int number;

        Constraint(int kind, int target, int source, int number) {
            this.kind = kind;
            this.target = target;
            this.source = source;
            this.number = number;
        }

        void changeRow(int[] row) {
            int changed = row[target];
            int bound = CHANNEL_BOUND;
            switch (kind) {
                case COPY:
                    changed = row[source];
                    break;
                case ADD:
                    changed += row[source];
                    break;
                case SCALE:
                    changed = row[source] * number / SCALE_DIVISOR;
                    break;
                default:
                    bound = number;
            }
            row[target] = Math.max(-bound, Math.min(bound, changed));
        }
    }

    private static final class Version {
        int content;
        final Constraint[] constraints;
        int constraintCount;
        final Version[] parents;
        int parentCount;
        int height;
        boolean retracted;
        boolean approved;
        boolean marked;

        Version() {
            constraints = new Constraint[MAX_CONSTRAINTS];
            parents = new Version[MAX_PARENTS];
            height = 1;
        }

        void addConstraint(Constraint added) {
            constraints[constraintCount] = added;
            constraintCount++;
        }

        void addParent(Version added) {
            parents[parentCount] = added;
            parentCount++;
            height = Math.max(height, added.height + 1);
        }

        boolean hasRetractedParent() {
            for (int i = 0; i < parentCount; i++) {
                if (parents[i].retracted) {
                    return true;
                }
            }
            return false;
        }

        boolean hasMarkedParent() {
            for (int i = 0; i < parentCount; i++) {
                if (parents[i].marked) {
                    return true;
                }
            }
            return false;
        }

        boolean mayBeApproved() {
            for (int i = 0; i < parentCount; i++) {
                if (!parents[i].approved) {
                    return false;
                }
            }
            return !retracted;
        }
    }

    /** The keys and the image of a frame are its own, so that they go where it goes. */
    private static final class Frame {
        final Shot shot;
        int name;
        final boolean[] keyed;
        final int[] keys;
        int station;
        int tries;
        boolean hasImage;
        int image;
        final Version[] madePins;
        final int[] madeLines;
        int madeColour;
        int madeSize;

        Frame(Shot shot) {
            this.shot = shot;
            keyed = new boolean[SLOTS * CHANNELS];
            keys = new int[SLOTS * CHANNELS];
            madePins = new Version[SLOTS];
            madeLines = new int[SLOTS * CHANNELS];
        }

        int space() {
            return hasImage ? spaceOf(madeSize) : 0;
        }
    }

    private static final class Shot {
        final int number;
        final Frame[] row;
        private final Frame[] nextRow;
        int frameCount;
        private int nextName;
        final Version[] pins;
        int keyCount;
        int colour;
        int size;
        boolean approved;
        int bid;
        int hours;

        Shot(int number) {
            this.number = number;
            row = new Frame[MAX_FRAMES];
            nextRow = new Frame[MAX_FRAMES];
            pins = new Version[SLOTS];
            size = 1;
        }

        /** All frames that a shot can ever have at once are made here, and used again after a cut. */
        static Shot withFrames(int number, int frames) {
            Shot made = new Shot(number);
            for (int i = 0; i < MAX_FRAMES; i++) {
                made.row[i] = new Frame(made);
            }
            made.putFrames(0, frames);
            return made;
        }

        /** The frames behind the last one of the row are spare ones: they get new names here. */
        void putFrames(int place, int many) {
            int from = frameCount;
            frameCount += many;
            for (int i = from; i < frameCount; i++) {
                row[i].name = nextName;
                nextName++;
            }
            moveFrames(from, many, place);
            approved = false;
        }

        /** Frames that are taken become spare ones, without keys. */
        void takeFrames(int place, int many) {
            moveFrames(place, many, frameCount - many);
            for (int i = frameCount - many; i < frameCount; i++) {
                removeKeys(row[i]);
            }
            frameCount -= many;
            approved = false;
        }

        void moveFrames(int place, int many, int to) {
            for (int i = 0; i < frameCount; i++) {
                nextRow[placeBehindMove(i, place, many, to)] = row[i];
            }
            for (int i = 0; i < frameCount; i++) {
                row[i] = nextRow[i];
            }
        }

        private static int placeBehindMove(int old, int place, int many, int to) {
            if (old >= place && old < place + many) {
                return to + old - place;
            }
            int amongOthers = old < place ? old : old - many;
            return amongOthers < to ? amongOthers : amongOthers + many;
        }

        void setKey(Frame frame, int line, int value) {
            if (!frame.keyed[line]) {
                frame.keyed[line] = true;
                keyCount++;
            }
            frame.keys[line] = value;
            approved = false;
        }

        void removeKey(Frame frame, int line) {
            frame.keyed[line] = false;
            keyCount--;
            approved = false;
        }

        private void removeKeys(Frame frame) {
            for (int line = 0; line < SLOTS * CHANNELS; line++) {
                if (frame.keyed[line]) {
                    removeKey(frame, line);
                }
            }
        }

        /** What the channel of a slot has at a place; both are told by one number, the line. */
        int lineAt(int line, int place) {
            int ahead = keyAtOrAhead(line, place);
            int behind = keyBehind(line, place);
            if (ahead == NONE) {
                return behind == NONE ? 0 : row[behind].keys[line];
            }
            int first = row[ahead].keys[line];
            if (behind <= ahead) {
                return first;
            }
            return first + (row[behind].keys[line] - first) * (place - ahead) / (behind - ahead);
        }

        private int keyAtOrAhead(int line, int place) {
            for (int i = place; i >= 0; i--) {
                if (row[i].keyed[line]) {
                    return i;
                }
            }
            return NONE;
        }

        private int keyBehind(int line, int place) {
            for (int i = place + 1; i < frameCount; i++) {
                if (row[i].keyed[line]) {
                    return i;
                }
            }
            return NONE;
        }

        int placeNamed(int name) {
            for (int i = 0; i < frameCount; i++) {
                if (row[i].name == name) {
                    return i;
                }
            }
            return NONE;
        }

        int pinCount() {
            int many = 0;
            for (int slot = 0; slot < SLOTS; slot++) {
                if (pins[slot] != null) {
                    many++;
                }
            }
            return many;
        }

        boolean pinsApprovedOnly() {
            for (int slot = 0; slot < SLOTS; slot++) {
                if (pins[slot] != null && !pins[slot].approved) {
                    return false;
                }
            }
            return pinCount() > 0;
        }

        boolean pinsMarked() {
            for (int slot = 0; slot < SLOTS; slot++) {
                if (pins[slot] != null && pins[slot].marked) {
                    return true;
                }
            }
            return false;
        }

        /** Keeps what an image is made of: equal images can be made of other things. */
        void keepImage(int place, int image) {
            Frame frame = row[place];
            frame.hasImage = true;
            frame.image = image;
            frame.madeColour = colour;
            frame.madeSize = size;
            for (int slot = 0; slot < SLOTS; slot++) {
                frame.madePins[slot] = pins[slot];
            }
            for (int line = 0; line < SLOTS * CHANNELS; line++) {
                frame.madeLines[line] = lineAt(line, place);
            }
        }

        boolean isFresh(int place) {
            Frame frame = row[place];
            if (!frame.hasImage || frame.madeColour != colour || frame.madeSize != size) {
                return false;
            }
            for (int slot = 0; slot < SLOTS; slot++) {
                if (frame.madePins[slot] != pins[slot] || pins[slot] != null && !hasMadeLines(slot, place)) {
                    return false;
                }
            }
            return true;
        }

        private boolean hasMadeLines(int slot, int place) {
            for (int channel = 0; channel < CHANNELS; channel++) {
                int line = lineOf(slot, channel);
                if (row[place].madeLines[line] != lineAt(line, place)) {
                    return false;
                }
            }
            return true;
        }

        boolean allFresh() {
            for (int place = 0; place < frameCount; place++) {
                if (!isFresh(place)) {
                    return false;
                }
            }
            return true;
        }
    }

    private static final class Cache {
        private final Version[] ofVersion;
        private final int[][] ofRow;
        private final int[] values;
        private int next;
        int size;
        int hits;
        int makings;
        // The row of a depth is what channels have ahead of the constraints of a version there.
        private final int[][] rows;

        Cache() {
            ofVersion = new Version[MAX_CACHED];
            ofRow = new int[MAX_CACHED][CHANNELS];
            values = new int[MAX_CACHED];
            rows = new int[MAX_HEIGHT + 1][CHANNELS];
        }

        int plainValue(Version version, int zero, int one, int two, int three) {
            rows[0][0] = zero;
            rows[0][1] = one;
            rows[0][2] = two;
            rows[0][3] = three;
            return valueAt(version, 0, false);
        }

        int imageOf(Shot shot, int place, boolean asking) {
            int sum = 0;
            for (int slot = 0; slot < SLOTS; slot++) {
                Version pinned = shot.pins[slot];
                if (pinned != null) {
                    for (int channel = 0; channel < CHANNELS; channel++) {
                        rows[0][channel] = shot.lineAt(lineOf(slot, channel), place);
                    }
                    sum += (slot + 1) * valueAt(pinned, 0, asking);
                }
            }
            int divisor = Math.max(1, shot.size);
            return coloured(sum, shot.colour) / divisor % MODULUS;
        }

        private static int coloured(int sum, int colour) {
            if (colour == 1) {
                return 3 * sum + 7;
            }
            return colour == 2 ? 5 * sum + 11 : sum;
        }

        /** Heights keep the depth below MAX_HEIGHT; what would go deeper counts 0. */
        private int valueAt(Version version, int depth, boolean asking) {
            if (depth >= MAX_HEIGHT) {
                return 0;
            }
            int found = asking ? indexOf(version, rows[depth]) : NONE;
            if (found != NONE) {
                hits++;
                return values[found];
            }
            int value = newValueAt(version, depth, asking);
            if (asking) {
                putIn(version, rows[depth], value);
            }
            return value;
        }

        private int newValueAt(Version version, int depth, boolean asking) {
            int[] changed = rows[depth + 1];
            copyRow(rows[depth], changed);
            for (int i = 0; i < version.constraintCount; i++) {
                version.constraints[i].changeRow(changed);
            }
            int sum = 31 * version.content;
            for (int channel = 0; channel < CHANNELS; channel++) {
                sum += (channel + 1) * (changed[channel] + 10000);
            }
            for (int i = 0; i < version.parentCount; i++) {
                sum += 7 * (i + 1) * valueAt(version.parents[i], depth + 1, asking);
            }
            return sum % MODULUS;
        }

        private int indexOf(Version version, int[] row) {
            for (int i = 0; i < size; i++) {
                if (ofVersion[i] == version && sameRow(ofRow[i], row)) {
                    return i;
                }
            }
            return NONE;
        }

        /** The places are filled in turn, so that the next one has what was put in first. */
        private void putIn(Version version, int[] row, int value) {
            ofVersion[next] = version;
            copyRow(row, ofRow[next]);
            values[next] = value;
            next = (next + 1) % MAX_CACHED;
            size = Math.min(MAX_CACHED, size + 1);
            makings++;
        }

        private static void copyRow(int[] from, int[] to) {
            for (int channel = 0; channel < CHANNELS; channel++) {
                to[channel] = from[channel];
            }
        }

        private static boolean sameRow(int[] one, int[] other) {
            for (int channel = 0; channel < CHANNELS; channel++) {
                if (one[channel] != other[channel]) {
                    return false;
                }
            }
            return true;
        }
    }

    private static final class Machine {
        final int number;
        final int speed;
        final int weakness;
        Frame frame;
        int ticksLeft;
        boolean tried;

        Machine(int number, int speed, int weakness) {
            this.number = number;
            this.speed = speed;
            this.weakness = weakness;
        }

        void takeOn(Frame taken) {
            frame = taken;
            taken.station = ON_MACHINE + number;
            ticksLeft = (1 + taken.shot.pinCount() + speed - 1) / Math.max(1, speed);
            tried = false;
        }

        void letGo() {
            frame = null;
            ticksLeft = 0;
        }

        boolean failsWith(Frame frame) {
            return (7 * frame.shot.number + 5 * frame.name + 3 * frame.tries + number) % 7 < weakness;
        }
    }

    private static final class Farm {
        final Machine[] machines;
        int machineCount;
        private final Frame[] queue;
        int queued;
        int room;
        int used;
        int failedTries;
        int givenUp;
        private final Cache cache;

        Farm(Cache cache) {
            machines = new Machine[MAX_MACHINES];
            queue = new Frame[MAX_SHOTS * MAX_FRAMES];
            room = FIRST_ROOM;
            this.cache = cache;
        }

        void addNew(int speed, int weakness) {
            machines[machineCount] = new Machine(machineCount, speed, weakness);
            machineCount++;
        }

        /** A frame is there at most once, so that the queue has a place for each frame there can be. */
        void putLast(Frame frame) {
            if (queued < queue.length) {
                queue[queued] = frame;
                queued++;
                frame.station = IN_QUEUE;
            }
        }

        private void takeFromQueue(int index) {
            for (int i = index + 1; i < queued; i++) {
                queue[i - 1] = queue[i];
            }
            queued--;
            queue[queued] = null;
        }

        void release(Frame frame) {
            frame.station = NOWHERE;
            for (int i = queued - 1; i >= 0; i--) {
                if (queue[i] == frame) {
                    takeFromQueue(i);
                }
            }
            for (int i = 0; i < machineCount; i++) {
                if (machines[i].frame == frame) {
                    machines[i].letGo();
                }
            }
        }

        void dropImageOf(Frame frame) {
            used -= frame.space();
            frame.hasImage = false;
        }

        int passOneTick() {
            int many = 0;
            for (int i = 0; i < machineCount; i++) {
                if (isReady(machines[i]) && storesFrom(machines[i])) {
                    many++;
                }
            }
            for (int i = 0; i < machineCount; i++) {
                if (machines[i].frame == null && queued > 0) {
                    machines[i].takeOn(queue[0]);
                    takeFromQueue(0);
                }
            }
            return many;
        }

        /** Whether the image of the machine's frame is to be made at this tick, if there is room. */
        private boolean isReady(Machine machine) {
            Frame frame = machine.frame;
            if (frame == null) {
                return false;
            }
            machine.ticksLeft = Math.max(0, machine.ticksLeft - 1);
            if (machine.ticksLeft > 0) {
                return false;
            }
            if (machine.tried) {
                return true;
            }
            machine.tried = true;
            frame.tries++;
            if (machine.failsWith(frame)) {
                failOn(machine, frame);
                return false;
            }
            return true;
        }

        private void failOn(Machine machine, Frame frame) {
            machine.letGo();
            frame.station = NOWHERE;
            failedTries++;
            if (frame.tries >= MAX_TRIES) {
                givenUp++;
            } else {
                putLast(frame);
            }
        }

        private boolean storesFrom(Machine machine) {
            Frame frame = machine.frame;
            if (frame == null) {
                return false;
            }
            Shot shot = frame.shot;
            int place = shot.placeNamed(frame.name);
            int usedByOthers = used - frame.space();
            if (place == NONE || usedByOthers + spaceOf(shot.size) > room) {
                return false;
            }
            shot.keepImage(place, cache.imageOf(shot, place, true));
            used = usedByOthers + frame.space();
            machine.letGo();
            frame.station = NOWHERE;
            return true;
        }
    }

    private static final class Note {
        final Shot shot;
        final int name;
        final int weight;
        boolean open;

        Note(Shot shot, int name, int weight) {
            this.shot = shot;
            this.name = name;
            this.weight = weight;
            open = true;
        }

        boolean isOf(Shot other, int otherName) {
            return shot == other && name == otherName;
        }
    }

    private static final class Delivery {
        private final int[] images;

        Delivery(Shot shot) {
            images = new int[shot.frameCount];
            for (int place = 0; place < shot.frameCount; place++) {
                images[place] = shot.row[place].image;
            }
        }

        int imageAt(int place) {
            return place < images.length ? images[place] : NONE;
        }
    }
}
