/** What the tests of single sentences share: calls at the bounds of their arguments, and calls that are refused. */
abstract class Bounds {
    static final String INDEX = "IndexOutOfBoundsException";
    static final String ARGUMENT = "IllegalArgumentException";
    static final String STATE = "IllegalStateException";
    static final int LEAST = Integer.MIN_VALUE;
    static final int MOST = Integer.MAX_VALUE;

    interface NumberAct {
        void on(Marionette m, int number);
    }

    private final Sentences sentences;
    private final Check check;

    Bounds(Sentences sentences, Check check) {
        this.sentences = sentences;
        this.check = check;
    }

    abstract void all();

    final void in(String heading) {
        sentences.in(heading);
    }

    final void says(String sentence, Runnable test) {
        sentences.says(sentence, test);
    }

    final void same(String what, long due, Check.Call call) {
        check.same(what, due, call);
    }

    final void yes(String what, boolean got) {
        check.yes(what, got);
    }

    final void no(String what, boolean got) {
        check.no(what, got);
    }

    /** The call throws exactly this exception, and nothing has changed behind it. */
    final void refused(String due, Stories.Story story, Stories.Act act) {
        refused("the call", due, story, act);
    }

    private void refused(String what, String due, Stories.Story story, Stories.Act act) {
        Marionette m = story.make();
        check.fails(what, due, () -> act.on(m));
        check.compare("behind " + what, "", Twins.difference(story, act));
    }

    final void refuses(String due, Stories.Story story, NumberAct act, int... numbers) {
        for (int number : numbers) {
            refused("the call with " + number, due, story, m -> act.on(m, number));
        }
    }

    final void takes(Stories.Story story, NumberAct act, int... numbers) {
        for (int number : numbers) {
            Marionette m = story.make();
            same("the call with " + number, 0, () -> {
                act.on(m, number);
                return 0;
            });
        }
    }

    /** The least and the greatest number are taken; the first ones beyond, and the farthest, are refused. */
    final void bounds(String due, Stories.Story story, int least, int greatest, NumberAct act) {
        takes(story, act, least, greatest);
        refuses(due, story, act, least - 1, greatest + 1, LEAST, MOST);
    }

    /** What the calls answer, one for each number that is due, the first one being asked for 0. */
    final void row(String what, NumberAsk ask, long... due) {
        for (int i = 0; i < due.length; i++) {
            int asked = i;
            same(what + " " + asked, due[asked], () -> ask.of(asked));
        }
    }

    interface NumberAsk {
        long of(int number);
    }
}
