/** "Notes, hours, deliveries" of the terms, and the promises 23 to 26, 39 and 40. */
final class NoteBounds extends Bounds {
    private static final Stories.Story EMPTY = Stories::empty;
    private static final Stories.Story BUSY = Stories::busy;
    private static final Stories.Story THIRTY_NOTES = Stories.with(BUSY, m -> {
        Stories.times(26, () -> m.note(1, 1, 0));
        m.close(20);
    });
    /** Shot 1 has no open note then, and can be delivered. */
    private static final Stories.Story READY = Stories.with(BUSY, m -> m.close(3));
    private static final Stories.Story TWENTY_KEPT = Stories.with(READY, m -> Stories.times(19, () -> m.deliver(1, 1)));
    private static final Stories.Story FIVE_SHOTS = Stories.with(BUSY, m -> Stories.times(3, () -> m.addShot(16)));

    NoteBounds(Sentences sentences, Check check) {
        super(sentences, check);
    }

    @Override
    void all() {
        terms();
        refusals();
        note();
        close();
        work();
        deliver();
        placeOf();
        delivered();
    }

    private void boundsOfShots(NumberAct act) {
        bounds(INDEX, BUSY, 0, 1, act);
        bounds(INDEX, FIVE_SHOTS, 0, 4, act);
        refuses(INDEX, EMPTY, act, 0, -1);
    }

    private void terms() {
        in("Terms");
        says("Each delivered frame is what its pinned versions make.", () -> {
            Marionette m = READY.make();
            m.deliver(1, 1);
            long sum = m.value(0, 2, 0, 0, 0, 0) + 4L * m.value(0, 1, 0, 12, 0, 0);
            long due = (3 * sum + 7) / 3 % 99991;
            row("place", place -> m.delivered(1, place), due, due);
        });
        in("Notes, hours, deliveries");
        says("Notes are numbered from 0, at most 30;", () -> {
            Marionette m = new Marionette();
            m.addShot(16);
            for (int note = 0; note < 30; note++) {
                int number = note;
                same("note", number, () -> m.note(0, number % 16, number % 3));
            }
            same("the last one", 13, () -> m.placeOf(29));
            refused(INDEX, THIRTY_NOTES, x -> x.placeOf(30));
            refused(INDEX, THIRTY_NOTES, x -> x.close(-1));
            refused(STATE, THIRTY_NOTES, x -> x.note(0, 0, 0));
        });
        says("a note is of a frame, with a weight, 0 to 2, and open until it is closed;", () -> {
            Marionette m = new Marionette();
            m.addShot(2);
            row("note", weight -> m.note(0, 1, weight), 0, 1, 2);
            same("open", 3, () -> m.shot(0, 7));
            row("of the frame, note", m::placeOf, 1, 1, 1);
            yes("one is open", m.close(1));
            no("and closed", m.close(1));
            same("open then", 2, () -> m.shot(0, 7));
            refuses(ARGUMENT, BUSY, (x, weight) -> x.note(0, 0, weight), -1, 3);
        });
        says("that of a frame that is cut is closed.", () -> {
            Marionette m = Stories.busy();
            m.cut(1, 0, 1);
            same("open ones", 1, () -> m.shot(1, 7));
            no("closed by the cut", m.close(2));
            yes("not that of the next frame", m.close(3));
            yes("not that of the other shot", m.close(0));
            same("its place", -1, () -> m.placeOf(2));
            Marionette other = Stories.busy();
            other.cut(1, 1, 1);
            no("closed by the other cut", other.close(3));
            yes("not that of the same name in the other shot", other.close(0));
            same("its place stays", 1, () -> other.placeOf(0));
        });
    }

    private void deliverIs(String what, int due, Marionette m, int colour) {
        same(what, due, () -> m.deliver(1, colour));
        same(what + ": kept", due == 0 ? 2 : 1, () -> m.count(7));
    }

    private void refusals() {
        says("A delivery is refused for the first of these that is so: 1 the shot is not approved;", () -> {
            Marionette m = Stories.busy();
            m.key(1, 0, 0, 0, 5);
            m.work(1, 1, 99);
            deliverIs("all of them", 1, m, 0);
            m.approveShot(1);
            deliverIs("the others", 2, m, 0);
            m.dropImages(1);
            deliverIs("the next ones", 3, m, 1);
            Marionette one = READY.make();
            one.setLook(1, 1, 3);
            deliverIs("that alone", 1, one, 1);
        });
        says("2 its colour is another one;", () -> {
            deliverIs("0", 2, READY.make(), 0);
            deliverIs("2", 2, READY.make(), 2);
            deliverIs("its own", 0, READY.make(), 1);
            Marionette m = READY.make();
            m.dropImages(1);
            deliverIs("ahead of images that are missing", 2, m, 0);
        });
        says("3 the image of a frame is not stored, or not current;", () -> {
            Marionette m = READY.make();
            m.insert(1, 1, 1);
            m.approveShot(1);
            deliverIs("the one between is not stored", 3, m, 1);
            m.cut(1, 1, 1);
            m.approveShot(1);
            m.key(1, 0, 0, 0, 0);
            m.key(1, 0, 0, 1, 1);
            m.approveShot(1);
            deliverIs("the last one is not current", 3, m, 1);
            m.move(1, 0, 1, 1);
            m.approveShot(1);
            deliverIs("the first one is not current", 3, m, 1);
            m.note(1, 0, 1);
            deliverIs("ahead of a note", 3, m, 1);
            m.key(1, 0, 0, 0, 0);
            m.close(4);
            m.approveShot(1);
            deliverIs("both are", 0, m, 1);
        });
        says("4 a note of the weight 1 or 2 is open;", () -> {
            int[] due = {0, 4, 4};
            for (int weight = 0; weight <= 2; weight++) {
                Marionette m = READY.make();
                m.note(1, 0, weight);
                deliverIs("weight " + weight, due[weight], m, 1);
                Marionette over = READY.make();
                over.work(1, 1, 0);
                over.note(1, 0, weight);
                deliverIs("weight " + weight + ", more hours", due[weight] == 0 ? 5 : 4, over, 1);
                Marionette other = READY.make();
                other.note(0, 0, weight);
                deliverIs("of another shot", 0, other, 1);
                m.close(4);
                same("closed", 0, () -> m.deliver(1, 1));
            }
        });
        says("5 more hours were worked than the bid, if that is not 0.", () -> {
            int[] bids = {0, 1, 19, 20, 21, 999};
            int[] due = {0, 5, 5, 0, 0, 0};
            for (int i = 0; i < bids.length; i++) {
                Marionette m = READY.make();
                m.work(1, bids[i], 0);
                deliverIs("20 hours, the bid " + bids[i], due[i], m, 1);
            }
        });
        says("Otherwise it is kept, with the images of all frames as they are.", () -> {
            Marionette m = READY.make();
            long before = m.stored(1, 0);
            deliverIs("kept", 0, m, 1);
            m.dropImages(1);
            m.key(1, 0, 0, 0, 500);
            m.cut(1, 1, 1);
            m.setDisk(999);
            m.render(1);
            m.tick(30);
            m.approveShot(1);
            same("another one", 0, () -> m.deliver(1, 1));
            row("the first one stays", place -> m.delivered(1, place), before, before, -1);
            row("the other one", place -> m.delivered(2, place), m.stored(1, 0), -1);
        });
    }

    private void note() {
        in("Promise 23: note");
        says("Adds a note.", () -> {
            Marionette m = Stories.busy();
            m.note(0, 4, 2);
            same("one more is open", 2, () -> m.shot(0, 7));
            same("of the frame", 4, () -> m.placeOf(4));
            same("the shot stays approved", 1, () -> m.shot(0, 4));
        });
        says("- `place`: 0 for the first frame of the row", () -> bounds(INDEX, BUSY, 0, 4, (m, place) -> m.note(0, place, 0)));
        says("- `weight`: 0 to 2", () -> bounds(ARGUMENT, BUSY, 0, 2, (m, weight) -> m.note(0, 0, weight)));
        says("Returns its number.", () -> {
            Marionette m = new Marionette();
            m.addShot(1);
            m.addShot(1);
            row("of both shots", n -> m.note(n % 2, 0, 2 - n % 3), 0, 1, 2, 3, 4);
            same("the last one", 29, () -> Stories.with(BUSY, x -> Stories.times(25, () -> x.note(0, 0, 0))).make().note(1, 1, 2));
        });
        says("Throws `IndexOutOfBoundsException` if there is no such shot or place", () -> {
            boundsOfShots((m, shot) -> m.note(shot, 0, 0));
            bounds(INDEX, FIVE_SHOTS, 0, 15, (m, place) -> m.note(4, place, 0));
            refuses(INDEX, THIRTY_NOTES, (m, place) -> m.note(0, place, 0), -1, 5);
        });
        says("Throws `IllegalArgumentException` if weight is out of range", () -> {
            refuses(ARGUMENT, BUSY, (m, weight) -> m.note(1, 1, weight), -1, 3);
            refuses(ARGUMENT, THIRTY_NOTES, (m, weight) -> m.note(0, 0, weight), -1, 3);
        });
        says("Throws `IllegalStateException` if there are 30", () -> {
            refuses(STATE, THIRTY_NOTES, (m, weight) -> m.note(1, 0, weight), 0, 2);
            // Closed ones and those of frames that were cut are there still.
            refused(STATE, Stories.with(THIRTY_NOTES, m -> m.cut(1, 1, 1)), m -> m.note(1, 0, 0));
        });
    }

    private void close() {
        in("Promise 24: close");
        says("Closes a note.", () -> {
            Marionette m = Stories.busy();
            m.close(0);
            same("no open one", 0, () -> m.shot(0, 7));
            same("the other shot has two", 2, () -> m.shot(1, 7));
            same("its place", 1, () -> m.placeOf(0));
        });
        says("Returns whether it was open.", () -> {
            Marionette m = Stories.busy();
            yes("open", m.close(0));
            no("closed", m.close(0));
            no("closed before", m.close(1));
            yes("another one", m.close(3));
        });
        says("Throws `IndexOutOfBoundsException` if there is no such note", () -> {
            bounds(INDEX, BUSY, 0, 3, (m, note) -> m.close(note));
            bounds(INDEX, THIRTY_NOTES, 0, 29, (m, note) -> m.close(note));
            refuses(INDEX, EMPTY, (m, note) -> m.close(note), 0, -1);
        });
    }

    private void work() {
        in("Promise 25: work");
        says("Sets the bid of a shot, and adds hours that were worked.", () -> {
            Marionette m = Stories.busy();
            m.work(1, 7, 5);
            same("bid", 7, () -> m.shot(1, 5));
            same("hours", 25, () -> m.shot(1, 6));
            same("bid of the other", 0, () -> m.shot(0, 5));
            same("hours of the other", 0, () -> m.shot(0, 6));
            same("still approved", 1, () -> m.shot(1, 4));
        });
        says("- `bid`: 0 to 999; 0 for none", () -> {
            bounds(ARGUMENT, BUSY, 0, 999, (m, bid) -> m.work(0, bid, 0));
            Marionette m = READY.make();
            m.work(1, 0, 99);
            same("none: delivered with any hours", 0, () -> m.deliver(1, 1));
        });
        says("- `hours`: 0 to 99", () -> bounds(ARGUMENT, BUSY, 0, 99, (m, hours) -> m.work(0, 0, hours)));
        says("Returns the hours that were worked on it so far.", () -> {
            Marionette m = new Marionette();
            m.addShot(1);
            same("none", 0, () -> m.work(0, 5, 0));
            same("some", 99, () -> m.work(0, 0, 99));
            same("more", 100, () -> m.work(0, 999, 1));
            for (int i = 2; i <= 300; i++) {
                int times = i;
                same("many", 1 + 99 * times, () -> m.work(0, 1, 99));
            }
        });
        says("Throws `IndexOutOfBoundsException` if there is no such shot", () -> boundsOfShots((m, shot) -> m.work(shot, 1, 1)));
        says("Throws `IllegalArgumentException` if bid or hours is out of range", () -> {
            refused(ARGUMENT, BUSY, m -> m.work(1, 1000, 100));
            refused(ARGUMENT, BUSY, m -> m.work(1, 40, -1));
            refused(ARGUMENT, BUSY, m -> m.work(1, 40, 100));
            refused(ARGUMENT, BUSY, m -> m.work(1, -1, 40));
            refused(ARGUMENT, BUSY, m -> m.work(1, 1000, 40));
        });
    }

    private void deliver() {
        in("Promise 26: deliver");
        says("Delivers a shot.", () -> {
            Marionette m = READY.make();
            m.deliver(1, 1);
            same("kept", 2, () -> m.count(7));
            row("its images", place -> m.delivered(1, place), m.stored(1, 0), m.stored(1, 1), -1);
            same("it stays approved", 1, () -> m.shot(1, 4));
            same("its images stay", m.image(1, 0), () -> m.stored(1, 0));
        });
        says("- `colour`: 0 to 2: the colour that is asked for", () -> {
            bounds(ARGUMENT, READY, 0, 2, (m, colour) -> m.deliver(1, colour));
            row("colour", colour -> READY.make().deliver(1, colour), 2, 0, 2);
        });
        says("Returns 0 if it is kept; otherwise why it is refused, 1 to 5.", () -> {
            same("kept", 0, () -> READY.make().deliver(1, 1));
            same("not approved", 1, () -> Stories.with(READY, m -> m.setLook(1, 1, 3)).make().deliver(1, 1));
            same("colour", 2, () -> READY.make().deliver(1, 2));
            same("images", 3, () -> Stories.with(READY, m -> m.dropImages(1)).make().deliver(1, 1));
            same("notes", 4, () -> BUSY.make().deliver(1, 1));
            same("hours", 5, () -> Stories.with(READY, m -> m.work(1, 10, 0)).make().deliver(1, 1));
            Marionette m = BUSY.make();
            m.deliver(1, 1);
            same("what is refused is not kept", 1, () -> m.count(7));
        });
        says("Throws `IndexOutOfBoundsException` if there is no such shot", () -> boundsOfShots((m, shot) -> m.deliver(shot, 1)));
        says("Throws `IllegalArgumentException` if colour is out of range", () -> {
            refuses(ARGUMENT, BUSY, (m, colour) -> m.deliver(0, colour), -1, 3);
            refuses(ARGUMENT, TWENTY_KEPT, (m, colour) -> m.deliver(1, colour), -1, 3);
        });
        says("Throws `IllegalStateException` if 20 are kept", () -> {
            refused(STATE, TWENTY_KEPT, m -> m.deliver(1, 1));
            refused(STATE, TWENTY_KEPT, m -> m.deliver(1, 0));
            refused(STATE, TWENTY_KEPT, m -> m.deliver(0, 0));
            Marionette m = Stories.with(READY, x -> Stories.times(18, () -> x.deliver(1, 1))).make();
            same("nineteen", 19, () -> m.count(7));
            same("one that is refused", 2, () -> m.deliver(1, 2));
            same("the twentieth", 0, () -> m.deliver(1, 1));
            same("its image", m.stored(1, 1), () -> m.delivered(19, 1));
        });
    }

    private void placeOf() {
        in("Promise 39: placeOf");
        says("Returns the place of the frame of a note.", () -> {
            Marionette m = Stories.busy();
            row("at first, note", m::placeOf, 1, 3, 0, 1);
            m.insert(0, 2, 2);
            m.move(0, 0, 2, 5);
            m.insert(1, 0, 14);
            row("then, note", m::placeOf, 6, 3, 14, 15);
        });
        says("Returns the place; -1 if it was cut.", () -> {
            Marionette m = Stories.busy();
            m.cut(0, 1, 2);
            m.insert(0, 1, 2);
            row("the first one, note", m::placeOf, -1, 3, 0, 1);
            m.cut(0, 3, 1);
            m.cut(1, 1, 1);
            row("all but one, note", m::placeOf, -1, -1, 0, -1);
        });
        says("Throws `IndexOutOfBoundsException` if there is no such note", () -> {
            bounds(INDEX, BUSY, 0, 3, (m, note) -> m.placeOf(note));
            bounds(INDEX, THIRTY_NOTES, 0, 29, (m, note) -> m.placeOf(note));
            refuses(INDEX, EMPTY, (m, note) -> m.placeOf(note), 0, -1);
        });
    }

    private void delivered() {
        in("Promise 40: delivered");
        says("Returns an image of a delivery.", () -> {
            Marionette m = Stories.busy();
            long due = m.image(1, 0);
            m.setLook(1, 0, 1);
            row("as it was", place -> m.delivered(0, place), due, due);
        });
        says("- `delivery`: the delivery, from 0", () -> {
            bounds(INDEX, BUSY, 0, 0, (m, delivery) -> m.delivered(delivery, 0));
            bounds(INDEX, TWENTY_KEPT, 0, 19, (m, delivery) -> m.delivered(delivery, 0));
        });
        says("- `place`: 0 for the first frame", () -> {
            takes(BUSY, (m, place) -> m.delivered(0, place), 0, 1, 2, 15, 16, MOST);
            refuses(ARGUMENT, BUSY, (m, place) -> m.delivered(0, place), -1, LEAST);
        });
        says("Returns the image; -1 if it has not so many.", () -> {
            Marionette m = Stories.busy();
            row("two, and no more", place -> m.delivered(0, place) == -1 ? 0 : 1, 1, 1, 0, 0);
            row("far behind", n -> m.delivered(0, MOST - n), -1, -1);
            m.insert(1, 0, 14);
            same("not those that came later", -1, () -> m.delivered(0, 2));
            Marionette full = new Marionette();
            full.addAsset();
            full.publish(0);
            full.approve(0, 1);
            full.addShot(16);
            full.pin(0, 0, 0, 1);
            full.key(0, 0, 0, 0, 0);
            full.key(0, 0, 0, 15, 15);
            full.addMachine(3, 0);
            full.render(0);
            full.tick(30);
            full.approveShot(0);
            full.deliver(0, 0);
            row("sixteen", place -> full.delivered(0, place), 9, 10, 11, 12, 13, 14, 15, 16, 17, 18, 19, 20, 21, 22, 23, 24, -1);
        });
        says("Throws `IndexOutOfBoundsException` if there is no such delivery", () -> {
            refuses(INDEX, BUSY, (m, delivery) -> m.delivered(delivery, 0), -1, 1, LEAST, MOST);
            refuses(INDEX, EMPTY, (m, delivery) -> m.delivered(delivery, 0), 0, -1);
        });
        says("Throws `IllegalArgumentException` if place is below 0",
            () -> refuses(ARGUMENT, TWENTY_KEPT, (m, place) -> m.delivered(19, place), -1, LEAST));
    }
}
