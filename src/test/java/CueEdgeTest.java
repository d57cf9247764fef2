/** Edges of "Cues" and of the promises 10 to 19, a sentence a method. */
public final class CueEdgeTest {
    private static final long ALL_OF_LAST_ZONE = 1L << 63;

    private CueEdgeTest() {
    }

    public static void main(String[] args) {
        cueRanges();
        fortyCuesEver();
        cutIsOfCuesThatAreThere();
        cutDownToNone();
        tempoRange();
        tooEarlyBelowZero();
        struckAheadOfTooEarly();
        tooEarlyAheadOfDark();
        burstsFromTheFirstTickToTheLast();
        closesUpByEarlierBeatsAlone();
        closesUpByAllTheBeats();
        firesFromBelowZeroUp();
        whatRanges();
        cueNumbersThatAreAsked();
        fallsFurthest();
        columnsAreRoundedDown();
        burstsLowestAndHighest();
        dangerOfEachCorner();
        dangerDoesNotWrapAround();
        dangerFromOffTheGround();
        lastOfTheCalls();
        Check.end("CueEdgeTest");
    }

    private static void cueRanges() {
        MortarShow show = new MortarShow();
        Check.range(Check.ARGUMENT, "10: cue, beat", 0, 100, beat -> show.cue(beat, 0, 0));
        Check.range(Check.ARGUMENT, "10: cue, kind", 0, 3, kind -> show.cue(1, kind, 0));
        Check.range(Check.ARGUMENT, "10: cue, rack", 0, 5, rack -> show.cue(1, 0, rack));
        Check.same("10: the refused ones have no number", show.cue(0, 0, 0), 6);
        Check.same("10: the last beat", show.bursts(1), 2000);
    }

    /** "Cues are numbered from 0 as they are made, at most 40 ever". */
    private static void fortyCuesEver() {
        MortarShow show = new MortarShow();
        for (int number = 0; number < 40; number++) {
            Check.same("10: its number", show.cue(0, 0, 0), number);
        }
        Check.refused(Check.STATE, "10: the 41st", () -> show.cue(0, 0, 0));
        Check.refused(Check.ARGUMENT, "10: the 41st on the beat 101", () -> show.cue(101, 0, 0));
        for (int number = 0; number < 40; number++) {
            show.cut(number);
        }
        Check.refused(Check.STATE, "10: the 41st when none is left", () -> show.cue(0, 0, 0));
        Check.same("10: none is left", show.cues(), 0);
    }

    /** "if there is no such cue there". */
    private static void cutIsOfCuesThatAreThere() {
        MortarShow show = new MortarShow();
        Check.refused(Check.INDEX, "11: there is none", () -> show.cut(0));
        for (int made = 0; made < 4; made++) {
            show.cue(1, 0, 0);
        }
        Check.range(Check.INDEX, "11: cut", 0, 3, cue -> show.cut(cue));
        Check.refused(Check.INDEX, "11: the first again", () -> show.cut(0));
        Check.refused(Check.INDEX, "11: the last again", () -> show.cut(3));
        Check.same("11: the others are there", show.cues(), 2);
        Check.same("11: a number is not given again", show.cue(1, 0, 0), 4);
        Check.same("11: the new one", show.becomes(4), 0);
        Check.refused(Check.INDEX, "11: the last one still", () -> show.cut(3));
    }

    /** "Returns how many cues are left." */
    private static void cutDownToNone() {
        MortarShow show = new MortarShow();
        for (int made = 0; made < 40; made++) {
            show.cue(made, 0, 0);
        }
        for (int cue = 39; cue >= 0; cue--) {
            Check.same("11: left", show.cut(cue), cue);
        }
        Check.refused(Check.INDEX, "11: none is left", () -> show.cut(0));
    }

    private static void tempoRange() {
        MortarShow show = new MortarShow();
        show.cue(100, 0, 0);
        Check.same("12: the first tempo", show.setTempo(100), 20);
        Check.same("12: the greatest", show.bursts(0), 10000);
        Check.same("12: the greatest before", show.setTempo(1), 100);
        Check.same("12: the least", show.bursts(0), 100);
        Check.same("12: the least before", show.setTempo(20), 1);
        Check.range(Check.ARGUMENT, "12: setTempo", 1, 100, tempo -> show.setTempo(tempo));
        Check.same("12: the last that was taken", show.setTempo(20), 100);
    }

    /** "A cue that is not struck is too early, if that is below 0." */
    private static void tooEarlyBelowZero() {
        MortarShow show = new MortarShow();
        show.cue(1, 0, 0);
        int[][] tempos = {{4, -1, 2}, {5, 0, 0}, {6, 1, 0}};
        for (int[] t : tempos) {
            show.setTempo(t[0]);
            Check.same("13: fires", show.fires(0), t[1]);
            Check.same("13: becomes", show.becomes(0), t[2]);
            Check.same("13: fired()", show.fired(), t[2] == 0 ? 1 : 0);
        }
    }

    private static void struckAheadOfTooEarly() {
        MortarShow show = new MortarShow();
        show.cue(0, 0, 0);
        Check.same("13: too early", show.becomes(0), 2);
        show.setPeople(0, 0, 1);
        Check.same("13: struck, and would be too early", show.becomes(0), 1);
        Check.same("13: it closes up", show.closed(), 1);
    }

    private static void tooEarlyAheadOfDark() {
        MortarShow show = new MortarShow();
        show.cue(0, 0, 0);
        show.cue(1, 0, 0);
        for (int at = 0; at < 32; at++) {
            show.kill(at / 8, at % 8);
        }
        Check.same("13: too early, and would be dark", show.becomes(0), 2);
        Check.same("13: dark", show.becomes(1), 3);
        show.setPeople(0, 0, 1);
        Check.same("13: struck, and would be dark", show.becomes(1), 1);
    }

    private static void burstsFromTheFirstTickToTheLast() {
        MortarShow show = new MortarShow();
        show.cue(0, 0, 0);
        show.cue(100, 0, 0);
        show.setTempo(100);
        Check.same("14: the beat 0", show.bursts(0), 0);
        Check.same("14: the beat 100", show.bursts(1), 10000);
    }

    /** Cues of the rack 1 are struck. */
    private static MortarShow peopledAtRackOne() {
        MortarShow show = new MortarShow();
        show.setRack(1, 5, 5);
        show.setPeople(5, 5, 1);
        return show;
    }

    /** "less as many as there are earlier beats with cues all of which are struck". */
    private static void closesUpByEarlierBeatsAlone() {
        MortarShow show = peopledAtRackOne();
        show.cue(5, 0, 0);
        show.cue(6, 0, 1);
        Check.same("14: a later beat", show.bursts(0), 100);
        show.cue(4, 0, 1);
        Check.same("14: an earlier beat", show.bursts(0), 80);
        Check.same("14: its own beat does not count", show.bursts(1), 100);
        show.cue(4, 0, 1);
        Check.same("14: a beat with two struck cues counts once", show.bursts(0), 80);
        show.cue(4, 0, 0);
        Check.same("14: all but one are struck", show.bursts(0), 100);
        show.cut(4);
        show.cut(3);
        Check.same("14: one is left, and struck", show.bursts(0), 80);
        show.cut(2);
        Check.same("14: none is left", show.bursts(0), 100);
        show.cue(0, 0, 1);
        Check.same("14: the beat 0 closes up too", show.bursts(0), 80);
        show.cut(5);
        show.cue(5, 0, 1);
        Check.same("14: beside a struck one of its own beat", show.bursts(0), 100);
    }

    private static void closesUpByAllTheBeats() {
        MortarShow show = peopledAtRackOne();
        for (int beat = 0; beat < 39; beat++) {
            show.cue(beat, 0, 1);
        }
        show.cue(39, 0, 0);
        Check.same("14: all earlier beats are struck", show.bursts(39), 0);
        Check.same("14: the beat 1", show.bursts(1), 0);
        Check.same("14: the beat 0", show.bursts(0), 0);
        Check.same("15: fires", show.fires(39), -5);
        Check.same("13: it is too early by that", show.becomes(39), 2);
        show.setPeople(5, 5, 0);
        Check.same("14: none is struck", show.bursts(39), 780);
        Check.same("13: it is fired or dark, but not too early", show.becomes(39) != 2, true);
    }

    /** "the tick at which a cue is fired, or would have to be, perhaps below 0". */
    private static void firesFromBelowZeroUp() {
        MortarShow show = new MortarShow();
        show.setShell(0, 200, 1, 0);
        show.setShell(1, 1, 100, 0);
        show.setTempo(100);
        show.cue(0, 0, 0);
        show.cue(100, 1, 0);
        show.cue(0, 1, 0);
        Check.same("15: the earliest", show.fires(0), -20);
        Check.same("15: the latest", show.fires(1), 9999);
        Check.same("15: one ahead of 0", show.fires(2), -1);
    }

    private static void whatRanges() {
        MortarShow show = new MortarShow();
        show.cue(1, 0, 0);
        Check.range(Check.ARGUMENT, "16: falls, what", 0, 3, what -> show.falls(0, what));
        Check.range(Check.ARGUMENT, "17: fallsBySteps, what", 0, 3, what -> show.fallsBySteps(0, what));
        Check.range(Check.ARGUMENT, "18: burstAt, what", 0, 2, what -> show.burstAt(0, what));
    }

    private static void cueNumbersThatAreAsked() {
        MortarShow show = new MortarShow();
        for (int made = 0; made < 40; made++) {
            show.cue(made, 0, 0);
        }
        Check.range(Check.INDEX, "13: becomes", 0, 39, cue -> show.becomes(cue));
        Check.range(Check.INDEX, "14: bursts", 0, 39, cue -> show.bursts(cue));
        Check.range(Check.INDEX, "15: fires", 0, 39, cue -> show.fires(cue));
        Check.range(Check.INDEX, "16: falls", 0, 39, cue -> show.falls(cue, 0));
        Check.range(Check.INDEX, "17: fallsBySteps", 0, 39, cue -> show.fallsBySteps(cue, 0));
        Check.range(Check.INDEX, "18: burstAt", 0, 39, cue -> show.burstAt(cue, 0));
        Check.range(Check.INDEX, "19: danger", 0, 39, cue -> show.danger(cue));
        Check.range(Check.INDEX, "26: channelOf", 0, 39, cue -> show.channelOf(cue));
        Check.range(Check.INDEX, "30: price", 0, 39, cue -> show.price(cue));
        Check.range(Check.INDEX, "11: cut", 0, 39, cue -> show.cut(cue));
    }

    /** "these may be off the ground": 2120 ticks with the strongest winds, both ways. */
    private static void fallsFurthest() {
        MortarShow show = new MortarShow();
        show.setShell(0, 200, 1, 3);
        show.setRack(0, 7, 0);
        show.cue(1, 0, 0);
        for (int layer = 0; layer < 4; layer++) {
            show.setWind(layer, 100, -100);
        }
        int[] due = {750 + 212000, 50 - 212000, 2127, -2120};
        for (int what = 0; what < 4; what++) {
            Check.same("16: falls(0, " + what + ")", show.falls(0, what), due[what]);
            Check.same("17: fallsBySteps(0, " + what + ")", show.fallsBySteps(0, what), due[what]);
        }
        Check.same("19: no danger there", show.danger(0), 0L);
        Check.same("13: it is fired all the same", show.becomes(0), 0);
        Check.same("18: its burst, x", show.burstAt(0, 0), 750 + 2000);
        Check.same("18: its burst, y", show.burstAt(0, 1), 50 - 2000);
    }

    /** "in the column x / 100 and the line y / 100, rounded down". */
    private static void columnsAreRoundedDown() {
        MortarShow show = new MortarShow();
        show.setShell(0, 20, 10, 0);
        Check.same("16: five ticks", show.flight(0), 5);
        show.setShell(1, 21, 9, 0);
        Check.same("16: seven ticks", show.flight(1), 7);
        show.setShell(2, 1, 1, 0);
        Check.same("16: two ticks", show.flight(2), 2);
        show.setShell(3, 10, 5, 0);
        Check.same("16: three ticks", show.flight(3), 3);
        for (int kind = 0; kind < 4; kind++) {
            show.cue(1, kind, 0);
        }
        // The kind, the wind, the distance and the column or line.
        int[][] places = {{1, 7, 99, 0}, {0, 10, 100, 1}, {0, -10, 0, 0}, {3, -17, -1, -1}, {0, -30, -100, -1},
            {2, -76, -102, -2}, {2, 74, 198, 1}, {0, 30, 200, 2}};
        for (int[] p : places) {
            for (int what = 0; what < 2; what++) {
                show.setWind(0, what == 0 ? p[1] : 0, what == 0 ? 0 : p[1]);
                Check.same("16: distance", show.falls(p[0], what), p[2]);
                Check.same("16: column or line", show.falls(p[0], what + 2), p[3]);
                Check.same("17: distance", show.fallsBySteps(p[0], what), p[2]);
                Check.same("17: column or line", show.fallsBySteps(p[0], what + 2), p[3]);
            }
        }
    }

    private static void burstsLowestAndHighest() {
        MortarShow show = new MortarShow();
        show.cue(1, 0, 0);
        show.setShell(0, 1, 100, 0);
        Check.same("18: the lowest", show.burstAt(0, 2), 1);
        show.setShell(0, 200, 1, 0);
        Check.same("18: the highest", show.burstAt(0, 2), 2100);
        // Up by 0 66 122 168 204 230 246: it is at 252 only as it bursts, and not driven there yet.
        show.setShell(0, 66, 1, 0);
        show.setWind(1, 100, 0);
        Check.same("18: the layer 1 does not drive it up to there", show.burstAt(0, 0), 50);
        Check.same("17: but down from there", show.fallsBySteps(0, 0), 350);
    }

    /** "a bit for each, that of the column c and the line l being the bit 8 times l, plus c". */
    private static void dangerOfEachCorner() {
        MortarShow show = new MortarShow();
        show.cue(1, 0, 0);
        Check.same("19: the first zone", show.danger(0), 1L);
        show.setRack(0, 7, 0);
        Check.same("19: the end of the first line", show.danger(0), 0x80L);
        show.setRack(0, 0, 7);
        Check.same("19: the begin of the last line", show.danger(0), 1L << 56);
        show.setRack(0, 7, 7);
        Check.same("19: the last zone", show.danger(0), ALL_OF_LAST_ZONE);
        show.setPeople(7, 7, 1);
        Check.same("13: people in the last zone", show.becomes(0), 1);
        show.setPeople(7, 7, 0);
        show.setShell(0, 50, 20, 3);
        Check.same("19: the radius 3 there", show.danger(0), 0xF0F0F0F000000000L);
        show.setRack(0, 0, 0);
        Check.same("19: the radius 3 in the first", show.danger(0), 0x0F0F0F0FL);
        show.setRack(0, 3, 4);
        Check.same("19: 49 zones", show.danger(0), 0x7F7F7F7F7F7F7F00L);
    }

    /** A shell of two ticks: the wind drives it by two times its numbers. */
    private static MortarShow twoTicks(int radius) {
        MortarShow show = new MortarShow();
        show.setShell(0, 1, 1, radius);
        show.cue(1, 0, 0);
        return show;
    }

    private static void dangerDoesNotWrapAround() {
        MortarShow show = twoTicks(0);
        show.setRack(0, 0, 1);
        show.setWind(0, -50, 0);
        Check.same("19: the column -1 of the line 1", show.danger(0), 0L);
        show.setRack(0, 7, 0);
        show.setWind(0, 50, 0);
        Check.same("19: the column 8 of the line 0", show.danger(0), 0L);
        show.setRack(0, 2, 7);
        show.setWind(0, 0, 50);
        Check.same("19: the line 8", show.danger(0), 0L);
        show.setRack(0, 2, 0);
        show.setWind(0, 0, -50);
        Check.same("19: the line -1", show.danger(0), 0L);
        for (int zone = 0; zone < 64; zone++) {
            show.setPeople(zone % 8, zone / 8, 1);
        }
        Check.same("13: people everywhere do not strike it", show.becomes(0), 0);
    }

    /** "be that on the ground or not": its radius still reaches the ground, or just not. */
    private static void dangerFromOffTheGround() {
        MortarShow show = twoTicks(1);
        show.setWind(0, -50, -50);
        Check.same("19: the first zone, from column and line -1", show.danger(0), 1L);
        show.setWind(0, -100, -50);
        Check.same("19: the column -2 is too far off", show.danger(0), 0L);
        show.setWind(0, -50, -100);
        Check.same("19: the line -2 is too far off", show.danger(0), 0L);
        show.setRack(0, 7, 7);
        show.setWind(0, 50, 50);
        Check.same("19: the last zone, from column and line 8", show.danger(0), ALL_OF_LAST_ZONE);
        show.setWind(0, 100, 50);
        Check.same("19: the column 9 is too far off", show.danger(0), 0L);
        show.setWind(0, 50, 100);
        Check.same("19: the line 9 is too far off", show.danger(0), 0L);
        show.setShell(0, 10, 5, 3);
        show.setWind(0, 100, 0);
        Check.same("19: the column 10 with the radius 3", show.danger(0), 0x8080808000000000L);
        show.setShell(0, 20, 15, 3);
        Check.same("19: the column 11 with the radius 3", show.danger(0), 0L);
    }

    /** "An object is used for at most 512 calls": the 512th is still answered. */
    private static void lastOfTheCalls() {
        MortarShow show = new MortarShow();
        for (int made = 0; made < 40; made++) {
            show.cue(made, made % 4, made % 6);
        }
        for (int call = 40; call < 511; call++) {
            show.setTempo(1 + call % 100);
        }
        Check.same("14: the 512th call", show.bursts(39), 39 * 11);
    }
}
