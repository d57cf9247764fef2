/** Promises 10 to 19: cues. */
public final class CueTest {
    private CueTest() {
    }

    public static void main(String[] args) {
        cue();
        cut();
        setTempo();
        becomes();
        bursts();
        fires();
        falls();
        fallsBySteps();
        burstAt();
        danger();
        Check.end("CueTest");
    }

    private static void cue() {
        MortarShow show = new MortarShow();
        int[][] bad = {{-1, 0, 0}, {101, 0, 0}, {0, -1, 0}, {0, 4, 0}, {0, 0, -1}, {0, 0, 6}};
        for (int[] b : bad) {
            Check.refused(Check.ARGUMENT, "10: cue", () -> show.cue(b[0], b[1], b[2]));
        }
        Check.same("10: cue(0, 0, 0)", show.cue(0, 0, 0), 0);
        Check.same("10: cue(100, 3, 5)", show.cue(100, 3, 5), 1);
        show.cut(0);
        for (int number = 2; number < 40; number++) {
            Check.same("10: numbers go on", show.cue(1, 1, 1), number);
        }
        Check.refused(Check.STATE, "10: the 41st", () -> show.cue(0, 0, 0));
        show.cut(5);
        Check.refused(Check.STATE, "10: the 41st behind a cut", () -> show.cue(0, 0, 0));
        Check.refused(Check.ARGUMENT, "10: out of range goes first", () -> show.cue(101, 0, 0));
        Check.same("10: cues()", show.cues(), 38);
    }

    private static void cut() {
        MortarShow show = new MortarShow();
        Check.refused(Check.INDEX, "11: cut(0)", () -> show.cut(0));
        for (int made = 0; made < 3; made++) {
            show.cue(3, 0, 0);
        }
        Check.same("11: cut(1)", show.cut(1), 2);
        Check.refused(Check.INDEX, "11: cut(1) again", () -> show.cut(1));
        Check.refused(Check.INDEX, "11: cut(-1)", () -> show.cut(-1));
        Check.refused(Check.INDEX, "11: cut(3)", () -> show.cut(3));
        Check.refused(Check.INDEX, "11: cut(40)", () -> show.cut(40));
        Check.refused(Check.INDEX, "11: cut(2147483647)", () -> show.cut(2147483647));
        Check.refused(Check.INDEX, "11: cut(-2147483648)", () -> show.cut(-2147483648));
        Check.same("11: cues()", show.cues(), 2);
        Check.same("11: fired()", show.fired(), 2);
        Check.same("11: firing(1)", show.firing(1), 2);
        Check.same("11: channels close up", show.channelOf(2), 8);
        Check.same("11: cut(2)", show.cut(2), 1);
        Check.same("11: cut(0)", show.cut(0), 0);
    }

    private static void setTempo() {
        MortarShow show = new MortarShow();
        show.cue(7, 0, 0);
        Check.same("12: setTempo(100)", show.setTempo(100), 20);
        Check.same("12: bursts(0)", show.bursts(0), 700);
        Check.same("12: setTempo(1)", show.setTempo(1), 100);
        Check.same("12: bursts(0) then", show.bursts(0), 7);
        Check.refused(Check.ARGUMENT, "12: setTempo(0)", () -> show.setTempo(0));
        Check.refused(Check.ARGUMENT, "12: setTempo(101)", () -> show.setTempo(101));
        Check.same("12: unchanged", show.setTempo(2), 1);
    }

    private static void becomes() {
        MortarShow show = new MortarShow();
        show.setTempo(5);
        show.setRack(1, 5, 5);
        show.setPeople(5, 5, 1);
        show.cue(1, 0, 0);
        show.cue(0, 0, 0);
        show.cue(0, 0, 1);
        for (int cue = 3; cue < 7; cue++) {
            show.cue(1, 0, 0);
        }
        Check.same("13: at the tick 0 it is fired", show.becomes(0), 0);
        Check.same("13: below 0 it is too early", show.becomes(1), 2);
        Check.same("13: struck goes ahead of too early", show.becomes(2), 1);
        Check.same("13: the fourth box", show.becomes(5), 0);
        Check.same("13: dark", show.becomes(6), 3);
        Check.refused(Check.INDEX, "13: becomes(-1)", () -> show.becomes(-1));
        Check.refused(Check.INDEX, "13: becomes(7)", () -> show.becomes(7));
        show.cut(6);
        Check.refused(Check.INDEX, "13: becomes(6)", () -> show.becomes(6));
        show.cut(1);
        // The beat 0 has only struck cues then, and the beat 1 closes up onto it.
        Check.same("13: too early by the closing up", show.becomes(0), 2);
        Check.same("13: it was on its way", show.fires(0), -5);
    }

    private static void bursts() {
        MortarShow show = struckBeats();
        // The beats 2 and 6 close up; 4 has a cue that is not struck.
        int[] due = {40, 60, 60, 100, 140, 0};
        for (int cue = 0; cue < 6; cue++) {
            Check.same("14: bursts(" + cue + ")", show.bursts(cue), due[cue]);
        }
        show.cut(2);
        Check.same("14: the beat 4 closes up then", show.bursts(3), 80);
        show.cut(1);
        Check.same("14: a beat without cues does not", show.bursts(3), 100);
        Check.refused(Check.INDEX, "14: bursts(1)", () -> show.bursts(1));
        Check.refused(Check.INDEX, "14: bursts(6)", () -> show.bursts(6));
        Check.refused(Check.INDEX, "14: bursts(-1)", () -> show.bursts(-1));
    }

    private static MortarShow struckBeats() {
        MortarShow show = new MortarShow();
        show.setRack(1, 5, 5);
        show.setPeople(5, 5, 1);
        show.cue(2, 0, 1);
        show.cue(4, 0, 1);
        show.cue(4, 0, 0);
        show.cue(6, 0, 1);
        show.cue(9, 0, 0);
        show.cue(0, 0, 0);
        return show;
    }

    private static void fires() {
        MortarShow show = struckBeats();
        show.setShell(1, 200, 1, 0);
        show.cue(100, 1, 0);
        int[] due = {35, 55, 55, 95, 135, -5, 1940};
        for (int cue = 0; cue < 7; cue++) {
            Check.same("15: fires(" + cue + ")", show.fires(cue), due[cue]);
        }
        Check.refused(Check.INDEX, "15: fires(7)", () -> show.fires(7));
        Check.refused(Check.INDEX, "15: fires(-1)", () -> show.fires(-1));
    }

    private static MortarShow windy() {
        MortarShow show = new MortarShow();
        show.setShell(0, 200, 1, 3);
        show.setWind(0, 1, -100);
        show.setWind(1, -2, 7);
        show.setWind(2, 3, 0);
        show.setWind(3, -1, 1);
        show.setRack(4, 2, 6);
        show.cue(0, 0, 4);
        return show;
    }

    private static void falls() {
        MortarShow show = windy();
        // x: 250 + 251 - 502 + 756 - 1366, y: 650 - 25100 + 1757 + 1366.
        int[] due = {-611, -21327, -7, -214};
        for (int what = 0; what < 4; what++) {
            Check.same("16: falls(0, " + what + ")", show.falls(0, what), due[what]);
        }
        wrongWhat("16: falls", show, 4, what -> show.falls(0, what));
        wrongCue("16: falls", show, cue -> show.falls(cue, 4));
        MortarShow edge = new MortarShow();
        edge.cue(0, 0, 0);
        edge.setShell(0, 1, 100, 0);
        int[][] edges = {{24, 98, 0}, {25, 100, 1}, {-25, 0, 0}, {-26, -2, -1}, {-75, -100, -1}, {-76, -102, -2}};
        for (int[] e : edges) {
            edge.setWind(0, e[0], e[0]);
            Check.same("16: distance x", edge.falls(0, 0), e[1]);
            Check.same("16: distance y", edge.falls(0, 1), e[1]);
            Check.same("16: column", edge.falls(0, 2), e[2]);
            Check.same("16: line", edge.falls(0, 3), e[2]);
        }
    }

    private static void fallsBySteps() {
        MortarShow show = windy();
        int[] due = {-611, -21327, -7, -214};
        for (int what = 0; what < 4; what++) {
            Check.same("17: fallsBySteps(0, " + what + ")", show.fallsBySteps(0, what), due[what]);
        }
        wrongWhat("17: fallsBySteps", show, 4, what -> show.fallsBySteps(0, what));
        wrongCue("17: fallsBySteps", show, cue -> show.fallsBySteps(cue, 4));
        for (int speed = 1; speed <= 200; speed++) {
            MortarShow other = windy();
            for (int fall = 1; fall <= 100; fall += 9) {
                other.setShell(0, speed, fall, 0);
                for (int what = 0; what < 4; what++) {
                    Check.same("17: as falls", other.fallsBySteps(0, what), other.falls(0, what));
                }
            }
        }
    }

    private static void burstAt() {
        MortarShow show = windy();
        // Rising: two ticks in the layer 0, one each in 1 and 2 and so on: 0 200 | 390 | 570 740 | 15 ticks.
        int[] due = {250 + 2 - 2 + 6 - 15, 650 - 200 + 7 + 15, 2100};
        for (int what = 0; what < 3; what++) {
            Check.same("18: burstAt(0, " + what + ")", show.burstAt(0, what), due[what]);
        }
        show.setShell(0, 1, 100, 0);
        Check.same("18: it is driven ahead of its burst", show.burstAt(0, 0), 251);
        Check.same("18: the least height", show.burstAt(0, 2), 1);
        wrongWhat("18: burstAt", show, 3, what -> show.burstAt(0, what));
        wrongCue("18: burstAt", show, cue -> show.burstAt(cue, 3));
    }

    private interface Asked {
        int answer(int argument);
    }

    private static void wrongWhat(String call, MortarShow show, int above, Asked asked) {
        Check.refused(Check.ARGUMENT, call + " of -1", () -> asked.answer(-1));
        Check.refused(Check.ARGUMENT, call + " of " + above, () -> asked.answer(above));
    }

    private static void wrongCue(String call, MortarShow show, Asked asked) {
        Check.refused(Check.INDEX, call + " of no cue, ahead of what", () -> asked.answer(1));
        Check.refused(Check.INDEX, call + " of -1, ahead of what", () -> asked.answer(-1));
    }

    private static void danger() {
        MortarShow show = new MortarShow();
        show.cue(0, 0, 0);
        Check.same("19: radius 0", show.danger(0), 1L);
        show.setShell(0, 50, 20, 1);
        Check.same("19: radius 1 in a corner", show.danger(0), 0x303L);
        show.setRack(0, 7, 7);
        Check.same("19: radius 1 in the far corner", show.danger(0), 0xC0C0000000000000L);
        show.setRack(0, 4, 3);
        show.setShell(0, 50, 20, 3);
        Check.same("19: radius 3", show.danger(0), 0x00FEFEFEFEFEFEFEL);
        show.setShell(0, 1, 1, 2);
        show.setRack(0, 0, 5);
        show.setWind(0, -100, 0);
        Check.same("19: two columns off the ground", show.danger(0), 0x0101010101000000L);
        show.setShell(0, 1, 1, 1);
        Check.same("19: too far off the ground", show.danger(0), 0L);
        show.setShell(0, 1, 1, 2);
        show.setRack(0, 7, 0);
        show.setWind(0, 100, -50);
        Check.same("19: off a corner", show.danger(0), 0x8080L);
        show.setPeople(7, 1, 1);
        Check.same("19: struck from off the ground", show.becomes(0), 1);
        show.setPeople(7, 1, 0);
        show.setPeople(7, 2, 1);
        show.setPeople(6, 0, 1);
        Check.same("19: people beside the danger", show.becomes(0), 2);
        Check.refused(Check.INDEX, "19: danger(1)", () -> show.danger(1));
        Check.refused(Check.INDEX, "19: danger(-1)", () -> show.danger(-1));
    }
}
