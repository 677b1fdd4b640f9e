import java.util.Arrays;

/** The promises 14 to 16: frames that are inserted, cut and moved. */
final class EditBounds extends Bounds {
    private static final Stories.Story EMPTY = Stories::empty;
    private static final Stories.Story BUSY = Stories::busy;
    private static final Stories.Story SIXTEEN = Stories.with(BUSY, m -> m.insert(0, 5, 11));
    private static final Stories.Story FIVE_SHOTS = Stories.with(BUSY, m -> Stories.times(3, () -> m.addShot(3)));

    EditBounds(Sentences sentences, Check check) {
        super(sentences, check);
    }

    @Override
    void all() {
        insert();
        cut();
        move();
    }

    private void names(String what, Marionette m, int... due) {
        same(what + ": frames", due.length, () -> m.shot(0, 0));
        row(what + ": name at", place -> m.frame(0, place), Arrays.stream(due).asLongStream().toArray());
    }

    private void boundsOfShots(NumberAct act) {
        bounds(INDEX, BUSY, 0, 1, act);
        bounds(INDEX, FIVE_SHOTS, 0, 4, act);
        refuses(INDEX, EMPTY, act, 0, -1);
    }

    private void insert() {
        in("Promise 14: insert");
        says("Inserts new frames ahead of a place.", () -> {
            Marionette m = Stories.busy();
            m.insert(0, 2, 3);
            names("between", m, 0, 1, 5, 6, 7, 2, 3, 4);
            row("without keys, at", place -> m.channel(0, 0, 0, place), -50, -30, -10, 10, 30, 50, 70, 70);
            row("without images, at", place -> m.stored(0, 2 + place), -1, -1, -1);
            row("nowhere, at", place -> m.where(0, 2 + place), 0, 0, 0);
            same("no more keys", 3, () -> m.shot(0, 1));
            same("no more notes", 1, () -> m.shot(0, 7));
            same("the note stays with its frame", 1, () -> m.placeOf(0));
            same("the other note too", 6, () -> m.placeOf(1));
            same("those on machines stay there", 10, () -> m.where(0, 5));
        });
        says("- `place`: 0 to how many it has", () -> {
            bounds(INDEX, BUSY, 0, 5, (m, place) -> m.insert(0, place, 1));
            bounds(INDEX, BUSY, 0, 2, (m, place) -> m.insert(1, place, 14));
            Marionette m = Stories.busy();
            m.insert(0, 0, 1);
            m.insert(0, 6, 1);
            names("at both ends", m, 5, 0, 1, 2, 3, 4, 6);
        });
        says("- `many`: 1 to 16", () -> {
            // 16 more are too many for each shot, but they are in the range.
            takes(BUSY, (m, many) -> m.insert(0, 0, many), 1, 11);
            refuses(ARGUMENT, BUSY, (m, many) -> m.insert(0, 0, many), 0, 17, -1, LEAST, MOST);
            refuses(STATE, BUSY, (m, many) -> m.insert(0, 0, many), 12, 16);
        });
        says("Returns how many frames it has then.", () -> {
            Marionette m = Stories.busy();
            same("one more", 6, () -> m.insert(0, 0, 1));
            same("some more", 10, () -> m.insert(0, 6, 4));
            same("full", 16, () -> m.insert(0, 3, 6));
            same("the other shot", 3, () -> m.insert(1, 0, 1));
            same("from 1 to 16", 16, () -> Stories.with(BUSY, x -> x.addShot(1)).make().insert(2, 1, 15));
        });
        says("Throws `IndexOutOfBoundsException` if there is no such shot or place", () -> {
            boundsOfShots((m, shot) -> m.insert(shot, 0, 1));
            refuses(INDEX, BUSY, (m, place) -> m.insert(0, place, 1), -1, 6, LEAST, MOST);
            refuses(INDEX, SIXTEEN, (m, place) -> m.insert(0, place, 1), -1, 17);
        });
        says("Throws `IllegalArgumentException` if many is out of range", () -> {
            refuses(ARGUMENT, BUSY, (m, many) -> m.insert(0, 5, many), 0, 17, -1);
            refuses(ARGUMENT, SIXTEEN, (m, many) -> m.insert(0, 16, many), 0, 17);
        });
        says("Throws `IllegalStateException` if it would have more than 16", () -> {
            takes(BUSY, (m, many) -> m.insert(0, 5, many), 11);
            refuses(STATE, BUSY, (m, many) -> m.insert(0, 5, many), 12, 16);
            refuses(STATE, SIXTEEN, (m, many) -> m.insert(0, 16, many), 1, 16);
        });
    }

    private void cut() {
        in("Promise 15: cut");
        says("Cuts frames, with their keys.", () -> {
            Marionette m = Stories.busy();
            m.cut(0, 1, 3);
            names("between", m, 0, 4);
            same("keys", 1, () -> m.shot(0, 1));
            row("what is left, at", place -> m.channel(0, 0, 0, place), -50, -50);
            row("and what is not, at", place -> m.channel(0, 2, 3, place), 0, 0);
            same("a note", -1, () -> m.placeOf(0));
            m.insert(0, 1, 3);
            names("new ones", m, 0, 5, 6, 7, 4);
            row("have no keys, at", place -> m.channel(0, 0, 0, place), -50, -50, -50, -50, -50);
            same("none", 1, () -> m.shot(0, 1));
        });
        says("with their keys.", () -> {
            Marionette m = new Marionette();
            m.addShot(2);
            ShotTerms.keyAllLines(m);
            m.key(0, 3, 3, 1, 8);
            same("as many as a frame can have are gone", 1, () -> {
                m.cut(0, 0, 1);
                return m.shot(0, 1);
            });
            m.dropKey(0, 3, 3, 0);
            m.insert(0, 1, 1);
            row("none of them, by the line,", line -> m.channel(0, line / 4, line % 4, 1),
                0, 0, 0, 0, 0, 0, 0, 0, 0, 0, 0, 0, 0, 0, 0, 0);
            row("each can be set anew, less 1,", line -> m.key(0, line / 4, line % 4, 1, 0) - 1,
                0, 1, 2, 3, 4, 5, 6, 7, 8, 9, 10, 11, 12, 13, 14, 15);
        });
        says("- `place`: the first one", () -> {
            bounds(INDEX, BUSY, 0, 4, (m, place) -> m.cut(0, place, 1));
            Marionette first = Stories.busy();
            first.cut(0, 0, 1);
            names("the first", first, 1, 2, 3, 4);
            Marionette last = Stories.busy();
            last.cut(0, 4, 1);
            names("the last", last, 0, 1, 2, 3);
        });
        says("- `many`: 1 or more", () -> {
            takes(BUSY, (m, many) -> m.cut(0, 0, many), 1, 4);
            refuses(ARGUMENT, BUSY, (m, many) -> m.cut(0, 0, many), 0, -1, LEAST);
            Marionette m = SIXTEEN.make();
            m.cut(0, 1, 15);
            names("all but the first", m, 0);
            Marionette other = SIXTEEN.make();
            other.cut(0, 0, 15);
            names("all but the last", other, 15);
        });
        says("Returns how many frames it has then.", () -> {
            Marionette m = SIXTEEN.make();
            same("one less", 15, () -> m.cut(0, 15, 1));
            same("some less", 5, () -> m.cut(0, 3, 10));
            same("one left", 1, () -> m.cut(0, 1, 4));
        });
        says("Throws `IndexOutOfBoundsException` if there is no such shot or place", () -> {
            boundsOfShots((m, shot) -> m.cut(shot, 0, 1));
            refuses(INDEX, BUSY, (m, place) -> m.cut(0, place, 1), -1, 5, LEAST, MOST);
            refuses(INDEX, SIXTEEN, (m, place) -> m.cut(0, place, 1), -1, 16);
        });
        says("Throws `IllegalArgumentException` if many is below 1, or there are not so many from there on", () -> {
            refuses(ARGUMENT, BUSY, (m, many) -> m.cut(0, 0, many), 0, 6, 16, MOST, LEAST);
            refuses(ARGUMENT, BUSY, (m, many) -> m.cut(0, 3, many), 0, 3, MOST, LEAST);
            refuses(ARGUMENT, BUSY, (m, many) -> m.cut(0, 4, many), 0, 2, MOST, MOST - 3);
            takes(BUSY, (m, many) -> m.cut(0, 3, many), 1, 2);
        });
        says("Throws `IllegalStateException` if no frame would be left", () -> {
            refused(STATE, BUSY, m -> m.cut(0, 0, 5));
            refused(STATE, SIXTEEN, m -> m.cut(0, 0, 16));
            refused(STATE, Stories.with(BUSY, m -> m.addShot(1)), m -> m.cut(2, 0, 1));
            refused(STATE, Stories.with(BUSY, m -> m.cut(0, 1, 4)), m -> m.cut(0, 0, 1));
        });
    }

    private void moved(int place, int many, int to, int... due) {
        Marionette m = Stories.busy();
        m.move(0, place, many, to);
        names(many + " from " + place + " to " + to, m, due);
    }

    private void move() {
        in("Promise 16: move");
        says("Moves frames, with all that is theirs.", () -> {
            Marionette m = Stories.busy();
            m.move(0, 0, 2, 3);
            names("to the end", m, 2, 3, 4, 0, 1);
            row("the keys, at", place -> m.channel(0, 0, 0, place), 70, 70, 10, -50, -50);
            same("three", 3, () -> m.shot(0, 1));
            row("the images, at", place -> m.stored(0, place) == -1 ? 0 : 1, 0, 0, 0, 1, 0);
            row("the machines and the queue, at", place -> m.where(0, place), 10, 11, 1, 0, 1);
            same("the note", 4, () -> m.placeOf(0));
            same("the other note", 1, () -> m.placeOf(1));
            same("the frame of the machine", 2, () -> m.machine(0, 1));
        });
        says("- `place`: the first one", () -> {
            bounds(INDEX, BUSY, 0, 4, (m, place) -> m.move(0, place, 1, 0));
            moved(4, 1, 0, 4, 0, 1, 2, 3);
            moved(0, 1, 4, 1, 2, 3, 4, 0);
        });
        says("- `many`: 1 or more", () -> {
            takes(BUSY, (m, many) -> m.move(0, 0, many, 0), 1, 5);
            refuses(ARGUMENT, BUSY, (m, many) -> m.move(0, 0, many, 0), 0, 6, -1, LEAST, MOST);
            moved(1, 4, 0, 1, 2, 3, 4, 0);
            moved(0, 4, 1, 4, 0, 1, 2, 3);
        });
        says("- `to`: the place of the first one behind that, 0 to how many it has, less many", () -> {
            for (int many = 1; many <= 5; many++) {
                int of = many;
                bounds(ARGUMENT, BUSY, 0, 5 - many, (m, to) -> m.move(0, 0, of, to));
            }
            moved(1, 2, 0, 1, 2, 0, 3, 4);
            moved(1, 2, 1, 0, 1, 2, 3, 4);
            moved(1, 2, 2, 0, 3, 1, 2, 4);
            moved(1, 2, 3, 0, 3, 4, 1, 2);
            moved(0, 5, 0, 0, 1, 2, 3, 4);
            Marionette m = SIXTEEN.make();
            m.move(0, 15, 1, 0);
            names("the last of sixteen", m, 15, 0, 1, 2, 3, 4, 5, 6, 7, 8, 9, 10, 11, 12, 13, 14);
        });
        says("Throws `IndexOutOfBoundsException` if there is no such shot or place", () -> {
            boundsOfShots((m, shot) -> m.move(shot, 0, 1, 0));
            refuses(INDEX, BUSY, (m, place) -> m.move(0, place, 1, 0), -1, 5, LEAST, MOST);
            refuses(INDEX, SIXTEEN, (m, place) -> m.move(0, place, 1, 0), -1, 16);
        });
        says("Throws `IllegalArgumentException` if many is below 1, there are not so many from there on, or to is out of range",
            () -> {
            refuses(ARGUMENT, BUSY, (m, many) -> m.move(0, 2, many, 0), 0, 4, LEAST, MOST, MOST - 1);
            takes(BUSY, (m, many) -> m.move(0, 2, many, 0), 1, 3);
            refuses(ARGUMENT, BUSY, (m, to) -> m.move(0, 2, 2, to), -1, 4, LEAST, MOST);
            takes(BUSY, (m, to) -> m.move(0, 2, 2, to), 0, 3);
            refuses(ARGUMENT, BUSY, (m, many) -> m.move(0, 0, many, -1), 1, 5, 6);
        });
    }
}
