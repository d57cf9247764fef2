/** A call that only returns something changes nothing of the show, and answers the same when it is asked again. */
public final class AskTest {
    private static final int CUES = 5;
    private static final String BEFORE = Snapshot.of(SentenceTest.allFates());
    private static final String SETTINGS = Snapshot.ofSettings(SentenceTest.allFates());

    private interface Asked {
        long answer(MortarShow show, int argument);
    }

    private AskTest() {
    }

    public static void main(String[] args) {
        ofTheGround();
        ofCues();
        ofTheShow();
        ofBoxesAndPrices();
        Check.end("AskTest");
    }

    private static void asks(String call, int arguments, Asked asked) {
        Check.same(call + ", all of the show behind it,", Snapshot.of(asked(call, arguments, asked)), BEFORE);
        Check.same(call + ", what was set,", Snapshot.ofSettings(asked(call, arguments, asked)), SETTINGS);
    }

    /** A show that was asked with the arguments from 0 up, each of them twice. */
    private static MortarShow asked(String call, int arguments, Asked asked) {
        MortarShow show = SentenceTest.allFates();
        for (int argument = 0; argument < arguments; argument++) {
            int at = argument;
            String first = Check.told(() -> asked.answer(show, at));
            Check.same(call + " of " + at + ", asked again,", Check.told(() -> asked.answer(show, at)), first);
        }
        return show;
    }

    private static void ofTheGround() {
        asks("7: peopled", 1, (show, a) -> show.peopled());
        asks("8: flight", 4, (show, kind) -> show.flight(kind));
        asks("9: inLayer", 16, (show, at) -> show.inLayer(at / 4, at % 4));
    }

    private static void ofCues() {
        asks("13: becomes", CUES, (show, cue) -> show.becomes(cue));
        asks("14: bursts", CUES, (show, cue) -> show.bursts(cue));
        asks("15: fires", CUES, (show, cue) -> show.fires(cue));
        asks("16: falls", 4 * CUES, (show, at) -> show.falls(at / 4, at % 4));
        asks("17: fallsBySteps", 4 * CUES, (show, at) -> show.fallsBySteps(at / 4, at % 4));
        asks("18: burstAt", 3 * CUES, (show, at) -> show.burstAt(at / 3, at % 3));
        asks("19: danger", CUES, (show, cue) -> show.danger(cue));
    }

    private static void ofTheShow() {
        asks("20: cues", 1, (show, a) -> show.cues());
        asks("21: fired", 1, (show, a) -> show.fired());
        asks("22: firing", 2, (show, place) -> show.firing(place));
        asks("23: closed", 1, (show, a) -> show.closed());
        threeAreFired();
    }

    private static void threeAreFired() {
        MortarShow show = new MortarShow();
        show.cue(3, 0, 0);
        show.cue(1, 0, 0);
        show.cue(2, 0, 0);
        int[] due = {1, 2, 0};
        for (int at : new int[] {2, 0, 1, 1, 0, 2, 2, 1, 0}) {
            Check.same("22: firing(" + at + "), asked in any order", show.firing(at), due[at]);
        }
    }

    private static void ofBoxesAndPrices() {
        asks("26: channelOf", CUES, (show, cue) -> show.channelOf(cue));
        asks("27: cueOn", 32, (show, at) -> show.cueOn(at / 8, at % 8));
        asks("28: spares", 1, (show, a) -> show.spares());
        asks("30: price", CUES, (show, cue) -> show.price(cue));
        asks("31: total", 1, (show, a) -> show.total());
    }
}
