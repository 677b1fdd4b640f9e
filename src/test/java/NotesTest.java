/** Promises 23 to 26, 39 and 40: notes, hours, deliveries. */
public final class NotesTest {
    private static final Check CHECK = new Check("NotesTest");

    public static void main(String[] args) {
        noteCountsUpToThirty();
        noteTestsItsArguments();
        closeTellsWhetherItWasOpen();
        notesStayWithTheirFrames();
        notesOfCutFramesAreClosed();
        workAddsHours();
        deliverRefusesForTheFirstReason();
        deliverAsksForEveryFrame();
        deliverTestsItsArguments();
        deliverStopsAtTwenty();
        aDeliveryStaysAsItWas();
        deliveredTestsItsArguments();
        CHECK.end();
    }

    /** One approved shot of some frames, all of them rendered. */
    private static Marionette rendered(int frames) {
        Marionette m = new Marionette();
        m.addAsset();
        m.content(4);
        m.publish(0);
        m.approve(0, 1);
        m.addShot(frames);
        m.pin(0, 0, 0, 1);
        m.addMachine(3, 0);
        m.render(0);
        m.tick(30);
        m.approveShot(0);
        return m;
    }

    private static void noteCountsUpToThirty() {
        Marionette m = new Marionette();
        m.addShot(2);
        m.addShot(1);
        for (int note = 0; note < 30; note++) {
            int number = note;
            CHECK.same("note", number, () -> m.note(number % 2, 0, number % 3));
        }
        CHECK.same("open ones of shot 0", 15, () -> m.shot(0, 7));
        CHECK.same("open ones of shot 1", 15, () -> m.shot(1, 7));
        m.close(0);
        CHECK.same("less a closed one", 14, () -> m.shot(0, 7));
        CHECK.noState("a thirty-first, one being closed", () -> m.note(0, 0, 0));
        CHECK.noArgument("a thirty-first, wrong", () -> m.note(0, 0, 3));
        CHECK.noIndex("a thirty-first, nowhere", () -> m.note(0, 2, 3));
    }

    private static void noteTestsItsArguments() {
        Marionette m = new Marionette();
        m.addShot(2);
        CHECK.noIndex("shot 1", () -> m.note(1, 0, 0));
        CHECK.noIndex("shot -1", () -> m.note(-1, 0, 0));
        CHECK.noIndex("place 2", () -> m.note(0, 2, 0));
        CHECK.noIndex("place -1", () -> m.note(0, -1, 0));
        CHECK.noIndex("place 2 goes ahead of the weight", () -> m.note(0, 2, 3));
        CHECK.noArgument("weight -1", () -> m.note(0, 0, -1));
        CHECK.noArgument("weight 3", () -> m.note(0, 0, 3));
        CHECK.same("none was added", 0, () -> m.note(0, 0, 0));
    }

    private static void closeTellsWhetherItWasOpen() {
        Marionette m = new Marionette();
        m.addShot(2);
        m.note(0, 0, 0);
        m.note(0, 1, 2);
        CHECK.noIndex("note -1", () -> m.close(-1));
        CHECK.noIndex("note 2", () -> m.close(2));
        CHECK.yes("open", m.close(1));
        CHECK.no("closed", m.close(1));
        CHECK.same("one open", 1, () -> m.shot(0, 7));
        CHECK.yes("the other", m.close(0));
        CHECK.same("none open", 0, () -> m.shot(0, 7));
        CHECK.same("a closed one keeps its place", 1, () -> m.placeOf(1));
    }

    private static void notesStayWithTheirFrames() {
        Marionette m = new Marionette();
        m.addShot(4);
        m.addShot(4);
        m.note(0, 1, 0);
        m.note(0, 3, 0);
        m.note(1, 1, 0);
        CHECK.same("place", 1, () -> m.placeOf(0));
        m.insert(0, 0, 2);
        CHECK.same("behind inserted ones", 3, () -> m.placeOf(0));
        m.move(0, 3, 2, 0);
        CHECK.same("moved", 0, () -> m.placeOf(0));
        CHECK.same("not moved", 5, () -> m.placeOf(1));
        m.cut(0, 1, 2);
        CHECK.same("after a cut", 3, () -> m.placeOf(1));
        CHECK.same("of the other shot", 1, () -> m.placeOf(2));
        CHECK.noIndex("note 3", () -> m.placeOf(3));
        CHECK.noIndex("note -1", () -> m.placeOf(-1));
    }

    private static void notesOfCutFramesAreClosed() {
        Marionette m = new Marionette();
        m.addShot(4);
        m.addShot(4);
        m.note(0, 1, 2);
        m.note(0, 2, 2);
        m.note(0, 2, 1);
        m.note(1, 2, 2);
        m.note(0, 3, 2);
        m.cut(0, 2, 1);
        CHECK.same("open ones", 2, () -> m.shot(0, 7));
        CHECK.same("of the other shot", 1, () -> m.shot(1, 7));
        CHECK.same("left", 1, () -> m.placeOf(0));
        CHECK.same("cut", -1, () -> m.placeOf(1));
        CHECK.same("cut too", -1, () -> m.placeOf(2));
        CHECK.same("behind it", 2, () -> m.placeOf(4));
        CHECK.no("closed by the cut", m.close(1));
        CHECK.no("closed too", m.close(2));
        CHECK.yes("open", m.close(3));
        m.insert(0, 2, 1);
        CHECK.same("a new frame is another one", -1, () -> m.placeOf(1));
        m.cut(0, 1, 1);
        CHECK.no("the first note closed by a cut", m.close(0));
        CHECK.same("numbers go on", 5, () -> m.note(0, 2, 0));
    }

    private static void workAddsHours() {
        Marionette m = new Marionette();
        m.addShot(1);
        m.addShot(1);
        CHECK.same("first", 99, () -> m.work(0, 999, 99));
        CHECK.same("more", 100, () -> m.work(0, 5, 1));
        CHECK.same("none", 100, () -> m.work(0, 6, 0));
        CHECK.same("bid", 6, () -> m.shot(0, 5));
        CHECK.same("hours", 100, () -> m.shot(0, 6));
        CHECK.same("of the other", 0, () -> m.shot(1, 6));
        CHECK.noIndex("shot 2", () -> m.work(2, 0, 0));
        CHECK.noIndex("shot -1 goes ahead of the bid", () -> m.work(-1, 1000, 0));
        CHECK.noArgument("bid -1", () -> m.work(0, -1, 1));
        CHECK.noArgument("bid 1000", () -> m.work(0, 1000, 1));
        CHECK.noArgument("hours -1", () -> m.work(0, 1, -1));
        CHECK.noArgument("hours 100", () -> m.work(0, 1, 100));
        CHECK.same("bid stays", 6, () -> m.shot(0, 5));
        CHECK.same("no bid", 100, () -> m.work(0, 0, 0));
        CHECK.same("bid 0", 0, () -> m.shot(0, 5));
    }

    private static void deliverRefusesForTheFirstReason() {
        Marionette m = rendered(2);
        m.setLook(0, 0, 2);
        m.note(0, 0, 1);
        m.work(0, 1, 2);
        CHECK.same("not approved", 1, () -> m.deliver(0, 1));
        m.approveShot(0);
        CHECK.same("another colour", 2, () -> m.deliver(0, 1));
        CHECK.same("another colour too", 2, () -> m.deliver(0, 2));
        CHECK.same("not current", 3, () -> m.deliver(0, 0));
        m.render(0);
        m.tick(30);
        CHECK.same("a note of the weight 1", 4, () -> m.deliver(0, 0));
        m.close(0);
        m.note(0, 1, 0);
        CHECK.same("more hours", 5, () -> m.deliver(0, 0));
        CHECK.same("none kept", 0, () -> m.count(7));
        m.work(0, 2, 0);
        CHECK.same("as many hours, a light note", 0, () -> m.deliver(0, 0));
        m.note(0, 1, 2);
        CHECK.same("a note of the weight 2", 4, () -> m.deliver(0, 0));
        m.close(2);
        m.work(0, 0, 99);
        CHECK.same("no bid", 0, () -> m.deliver(0, 0));
        CHECK.same("kept", 2, () -> m.count(7));
        m.addShot(1);
        m.note(1, 0, 2);
        CHECK.same("a note of another shot", 0, () -> m.deliver(0, 0));
    }

    private static void deliverAsksForEveryFrame() {
        Marionette m = rendered(3);
        CHECK.same("all stored", 0, () -> m.deliver(0, 0));
        m.key(0, 0, 0, 0, 1);
        m.key(0, 0, 0, 1, 0);
        m.approveShot(0);
        CHECK.no("the first one", m.isCurrent(0, 0));
        CHECK.yes("the second one", m.isCurrent(0, 1));
        CHECK.same("only the first one not current", 3, () -> m.deliver(0, 0));
        m.key(0, 0, 0, 0, 0);
        m.approveShot(0);
        CHECK.same("current again", 0, () -> m.deliver(0, 0));
        m.insert(0, 3, 1);
        m.approveShot(0);
        CHECK.same("the last one not stored", 3, () -> m.deliver(0, 0));
        m.cut(0, 3, 1);
        m.approveShot(0);
        CHECK.same("all again", 0, () -> m.deliver(0, 0));
        m.dropImages(0);
        CHECK.same("none stored", 3, () -> m.deliver(0, 0));
    }

    private static void deliverTestsItsArguments() {
        Marionette m = rendered(1);
        CHECK.noIndex("shot 1", () -> m.deliver(1, 0));
        CHECK.noIndex("shot -1", () -> m.deliver(-1, 0));
        CHECK.noIndex("shot 1 goes ahead of the colour", () -> m.deliver(1, 3));
        CHECK.noArgument("colour -1", () -> m.deliver(0, -1));
        CHECK.noArgument("colour 3", () -> m.deliver(0, 3));
    }

    private static void deliverStopsAtTwenty() {
        Marionette m = rendered(1);
        for (int i = 0; i < 20; i++) {
            CHECK.same("kept", 0, () -> m.deliver(0, 0));
        }
        CHECK.same("twenty", 20, () -> m.count(7));
        CHECK.noState("one more", () -> m.deliver(0, 0));
        CHECK.noState("one more that would be refused", () -> m.deliver(0, 1));
        CHECK.noArgument("one more, wrong", () -> m.deliver(0, 3));
        CHECK.same("the last one", 4 * 31 + 9, () -> m.delivered(19, 0));
        CHECK.noIndex("delivery 20", () -> m.delivered(20, 0));
    }

    private static void aDeliveryStaysAsItWas() {
        Marionette m = rendered(2);
        m.key(0, 0, 0, 0, 1);
        m.key(0, 0, 0, 1, 2);
        m.render(0);
        m.tick(30);
        m.approveShot(0);
        m.deliver(0, 0);
        m.key(0, 0, 0, 0, 50);
        m.render(0);
        m.tick(30);
        m.cut(0, 1, 1);
        m.approveShot(0);
        CHECK.same("another one", 0, () -> m.deliver(0, 0));
        m.dropImages(0);
        long plain = 4 * 31 + 9;
        CHECK.same("first, 0", plain + 1, () -> m.delivered(0, 0));
        CHECK.same("first, 1", plain + 2, () -> m.delivered(0, 1));
        CHECK.same("first, 2", -1, () -> m.delivered(0, 2));
        CHECK.same("second, 0", plain + 50, () -> m.delivered(1, 0));
        CHECK.same("second, 1", -1, () -> m.delivered(1, 1));
        CHECK.same("far behind", -1, () -> m.delivered(1, Integer.MAX_VALUE));
    }

    private static void deliveredTestsItsArguments() {
        Marionette m = rendered(1);
        m.deliver(0, 0);
        CHECK.noIndex("delivery -1", () -> m.delivered(-1, 0));
        CHECK.noIndex("delivery 1", () -> m.delivered(1, 0));
        CHECK.noIndex("delivery 1 goes ahead of the place", () -> m.delivered(1, -1));
        CHECK.noArgument("place -1", () -> m.delivered(0, -1));
    }
}
