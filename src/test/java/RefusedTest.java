/**
 * "When a call throws, nothing has changed; of several exceptions it is the first one of the throws clause."
 * Each refused call of the promises 2 to 30 is made on a show of its own, all of which is told after it.
 */
public final class RefusedTest {
    private static final int LEAST = Integer.MIN_VALUE;
    private static final int MOST = Integer.MAX_VALUE;
    private static final int CUT_CUE = 7;
    private static final int CUES_MADE = 8;

    private static final String BUSY = Snapshot.of(busy());
    private static final String FULL = Snapshot.ofFull(full());
    private static final String FRESH = Snapshot.of(new MortarShow());

    private interface Asked {
        long answer(MortarShow show);
    }

    private interface AskedOf {
        long answer(MortarShow show, int argument);
    }

    private RefusedTest() {
    }

    public static void main(String[] args) {
        theShowsAreBusyAndFull();
        ground();
        values();
        kinds();
        cue();
        cueWhenFull();
        tempoBoxesAndRates();
        callsOfACue();
        callsOfACueAndWhat();
        placeInTheShow();
        Check.end("RefusedTest");
    }

    /** Cues of all fates, one that was cut, and something other than at first wherever something is set. */
    private static MortarShow busy() {
        MortarShow show = new MortarShow();
        for (int rack = 0; rack < 6; rack++) {
            show.setRack(rack, rack + 1, 6 - rack);
        }
        int[][] shells = {{50, 21, 1}, {70, 20, 2}, {90, 33, 0}, {120, 50, 3}};
        for (int kind = 0; kind < 4; kind++) {
            show.setShell(kind, shells[kind][0], shells[kind][1], shells[kind][2]);
            show.setWind(kind, kind + 1, 2 - kind);
        }
        show.setPeople(6, 1, 3);
        show.setPeople(0, 0, 2);
        show.setValue(2, 6, 17);
        show.setValue(1, 1, 5);
        for (int hour = 0; hour < 10; hour++) {
            show.setRate(hour, hour + 3);
        }
        show.setTempo(19);
        show.setGap(20);
        for (int channel = 0; channel < 6; channel++) {
            show.kill(3, channel);
        }
        for (int cue = 0; cue < 5; cue++) {
            show.cue(10, 0, 0);
        }
        show.cue(4, 2, 5);
        show.cue(0, 1, 1);
        show.cue(3, 3, 2);
        show.cut(CUT_CUE);
        return show;
    }

    private static MortarShow full() {
        MortarShow show = new MortarShow();
        for (int cue = 0; cue < 40; cue++) {
            show.cue(cue, cue % 4, cue % 6);
        }
        return show;
    }

    private static void theShowsAreBusyAndFull() {
        MortarShow show = busy();
        int[] fates = {0, 0, 0, 0, 3, 1, 2};
        for (int cue = 0; cue < fates.length; cue++) {
            Check.same("13: the fate of the cue " + cue, show.becomes(cue), fates[cue]);
        }
        Check.same("23: closed", show.closed(), 1);
        Check.same("28: spares", show.spares(), 1);
        Check.same("20: full", full().cues(), 40);
    }

    private static void refused(String name, String call, Asked asked) {
        refusedBy(busy(), name, call + ", busy", asked, BUSY);
    }

    private static void refusedBy(MortarShow show, String name, String call, Asked asked, String before) {
        Check.refused(name, call, () -> asked.answer(show));
        Check.same(call + ", all of the show behind it,", Snapshot.of(show), before);
    }

    /** The next arguments outside of a range, and the ends of int. */
    private static void outside(String name, String call, int least, int most, AskedOf asked) {
        for (int argument : new int[] {least - 1, LEAST}) {
            refused(name, call + " of " + argument, show -> asked.answer(show, argument));
        }
        if (most < MOST) {
            for (int argument : new int[] {most + 1, MOST}) {
                refused(name, call + " of " + argument, show -> asked.answer(show, argument));
            }
        }
    }

    private static void bad(String call, int least, int most, AskedOf asked) {
        outside(Check.ARGUMENT, call, least, most, asked);
    }

    private static void ground() {
        bad("2: setRack, rack", 0, 5, (show, a) -> show.setRack(a, 3, 3));
        bad("2: setRack, column", 0, 7, (show, a) -> show.setRack(1, a, 3));
        bad("2: setRack, line", 0, 7, (show, a) -> show.setRack(1, 3, a));
        bad("2: setRack, all", 0, 7, (show, a) -> show.setRack(a, a, a));
        bad("3: setShell, kind", 0, 3, (show, a) -> show.setShell(a, 30, 30, 2));
        bad("3: setShell, speed", 1, 200, (show, a) -> show.setShell(0, a, 30, 2));
        bad("3: setShell, fall", 1, 100, (show, a) -> show.setShell(0, 30, a, 2));
        bad("3: setShell, radius", 0, 3, (show, a) -> show.setShell(0, 30, 30, a));
        bad("3: setShell, all", 0, 200, (show, a) -> show.setShell(a, a, a, a));
        bad("4: setWind, layer", 0, 3, (show, a) -> show.setWind(a, 9, 9));
        bad("4: setWind, x", -100, 100, (show, a) -> show.setWind(0, a, 9));
        bad("4: setWind, y", -100, 100, (show, a) -> show.setWind(0, 9, a));
        bad("4: setWind, all", -100, 100, (show, a) -> show.setWind(a, a, a));
    }

    private static void values() {
        bad("5: setPeople, column", 0, 7, (show, a) -> show.setPeople(a, 1, 0));
        bad("5: setPeople, line", 0, 7, (show, a) -> show.setPeople(6, a, 0));
        bad("5: setPeople, people", 0, MOST, (show, a) -> show.setPeople(6, 1, a));
        bad("5: setPeople, all", 0, MOST, (show, a) -> show.setPeople(a, a, a));
        bad("6: setValue, column", 0, 7, (show, a) -> show.setValue(a, 6, 1));
        bad("6: setValue, line", 0, 7, (show, a) -> show.setValue(2, a, 1));
        bad("6: setValue, value", 0, 100000000, (show, a) -> show.setValue(2, 6, a));
        bad("6: setValue, all", 0, 100000000, (show, a) -> show.setValue(a, a, a));
    }

    private static void kinds() {
        bad("8: flight, kind", 0, 3, (show, a) -> show.flight(a));
        bad("9: inLayer, kind", 0, 3, (show, a) -> show.inLayer(a, 1));
        bad("9: inLayer, layer", 0, 3, (show, a) -> show.inLayer(1, a));
        bad("9: inLayer, both", 0, 3, (show, a) -> show.inLayer(a, a));
    }

    private static void cue() {
        bad("10: cue, beat", 0, 100, (show, a) -> show.cue(a, 1, 1));
        bad("10: cue, kind", 0, 3, (show, a) -> show.cue(10, a, 1));
        bad("10: cue, rack", 0, 5, (show, a) -> show.cue(10, 1, a));
        bad("10: cue, all", 0, 100, (show, a) -> show.cue(a, a, a));
    }

    private static void cueWhenFull() {
        refusedFull(Check.STATE, "10: the 41st cue", show -> show.cue(0, 0, 0));
        refusedFull(Check.ARGUMENT, "10: the 41st cue, beat 101", show -> show.cue(101, 0, 0));
        refusedFull(Check.ARGUMENT, "10: the 41st cue, beat -1", show -> show.cue(-1, 0, 0));
        refusedFull(Check.ARGUMENT, "10: the 41st cue, kind 4", show -> show.cue(0, 4, 0));
        refusedFull(Check.ARGUMENT, "10: the 41st cue, kind -1", show -> show.cue(0, -1, 0));
        refusedFull(Check.ARGUMENT, "10: the 41st cue, rack 6", show -> show.cue(0, 0, 6));
        refusedFull(Check.ARGUMENT, "10: the 41st cue, rack -1", show -> show.cue(0, 0, -1));
    }

    private static void refusedFull(String name, String call, Asked asked) {
        MortarShow show = full();
        Check.refused(name, call, () -> asked.answer(show));
        Check.same(call + ", all of the show behind it,", Snapshot.ofFull(show), FULL);
    }

    private static void tempoBoxesAndRates() {
        bad("12: setTempo", 1, 100, (show, a) -> show.setTempo(a));
        bad("24: kill, box", 0, 3, (show, a) -> show.kill(a, 1) ? 1 : 0);
        bad("24: kill, channel", 0, 7, (show, a) -> show.kill(1, a) ? 1 : 0);
        bad("24: kill, both", 0, 7, (show, a) -> show.kill(a, a) ? 1 : 0);
        bad("25: setGap", 0, 20, (show, a) -> show.setGap(a));
        bad("27: cueOn, box", 0, 3, (show, a) -> show.cueOn(a, 1));
        bad("27: cueOn, channel", 0, 7, (show, a) -> show.cueOn(1, a));
        bad("27: cueOn, both", 0, 7, (show, a) -> show.cueOn(a, a));
        bad("29: setRate, hour", 0, 9, (show, a) -> show.setRate(a, 77));
        bad("29: setRate, rate", 0, 100000, (show, a) -> show.setRate(1, a));
        bad("29: setRate, both", 0, 100000, (show, a) -> show.setRate(a, a));
    }

    /** No such cue: below 0, not made yet, cut, beyond the last that can be made; and none at all. */
    private static void noSuchCue(String call, AskedOf asked) {
        outside(Check.INDEX, call, 0, CUES_MADE - 1, asked);
        for (int cue : new int[] {CUT_CUE, 39, 40, 63, 64}) {
            refused(Check.INDEX, call + " of " + cue, show -> asked.answer(show, cue));
        }
        for (int cue : new int[] {0, -1, 39, 40}) {
            refusedBy(new MortarShow(), Check.INDEX, call + " of " + cue + ", new object",
                    show -> asked.answer(show, cue), FRESH);
        }
    }

    private static void callsOfACue() {
        noSuchCue("11: cut", (show, cue) -> show.cut(cue));
        noSuchCue("13: becomes", (show, cue) -> show.becomes(cue));
        noSuchCue("14: bursts", (show, cue) -> show.bursts(cue));
        noSuchCue("15: fires", (show, cue) -> show.fires(cue));
        noSuchCue("19: danger", (show, cue) -> show.danger(cue));
        noSuchCue("26: channelOf", (show, cue) -> show.channelOf(cue));
        noSuchCue("30: price", (show, cue) -> show.price(cue));
    }

    private static void callsOfACueAndWhat() {
        noSuchCue("16: falls", (show, cue) -> show.falls(cue, 3));
        noSuchCue("16: falls, what is wrong too,", (show, cue) -> show.falls(cue, 4));
        noSuchCue("16: falls, what is below 0 too,", (show, cue) -> show.falls(cue, -1));
        bad("16: falls, what", 0, 3, (show, what) -> show.falls(0, what));
        noSuchCue("17: fallsBySteps", (show, cue) -> show.fallsBySteps(cue, 3));
        noSuchCue("17: fallsBySteps, what is wrong too,", (show, cue) -> show.fallsBySteps(cue, 4));
        noSuchCue("17: fallsBySteps, what is below 0 too,", (show, cue) -> show.fallsBySteps(cue, -1));
        bad("17: fallsBySteps, what", 0, 3, (show, what) -> show.fallsBySteps(0, what));
        noSuchCue("18: burstAt", (show, cue) -> show.burstAt(cue, 2));
        noSuchCue("18: burstAt, what is wrong too,", (show, cue) -> show.burstAt(cue, 3));
        noSuchCue("18: burstAt, what is below 0 too,", (show, cue) -> show.burstAt(cue, -1));
        bad("18: burstAt, what", 0, 2, (show, what) -> show.burstAt(0, what));
    }

    private static void placeInTheShow() {
        outside(Check.INDEX, "22: firing", 0, 3, (show, place) -> show.firing(place));
        refusedBy(new MortarShow(), Check.INDEX, "22: firing of 0, new object", show -> show.firing(0), FRESH);
        refusedBy(new MortarShow(), Check.INDEX, "22: firing of -1, new object", show -> show.firing(-1), FRESH);
    }
}
