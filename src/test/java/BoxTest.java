/** Promises 24 to 28: boxes. */
public final class BoxTest {
    private BoxTest() {
    }

    public static void main(String[] args) {
        kill();
        setGap();
        channelOf();
        cueOn();
        spares();
        Check.end("BoxTest");
    }

    private static MortarShow showOf(int cues, int gap) {
        MortarShow show = new MortarShow();
        show.setGap(gap);
        for (int cue = 0; cue < cues; cue++) {
            show.cue(10, 0, 0);
        }
        return show;
    }

    private static void kill() {
        MortarShow show = showOf(1, 2);
        Check.same("24: dead", show.kill(0, 0), true);
        Check.same("24: the next channel", show.channelOf(0), 1);
        Check.same("24: sound again", show.kill(0, 0), false);
        Check.same("24: the first channel", show.channelOf(0), 0);
        Check.same("24: dead again", show.kill(0, 0), true);
        Check.same("24: the last", show.kill(3, 7), true);
        int[][] bad = {{-1, 0}, {4, 0}, {0, -1}, {0, 8}};
        for (int[] b : bad) {
            Check.refused(Check.ARGUMENT, "24: kill", () -> show.kill(b[0], b[1]) ? 1 : 0);
        }
        Check.same("24: unchanged", show.kill(3, 7), false);
    }

    private static void setGap() {
        MortarShow show = new MortarShow();
        show.setTempo(1);
        show.cue(10, 0, 0);
        show.cue(11, 0, 0);
        show.cue(12, 0, 0);
        Check.same("25: a tick behind is less than the gap", show.channelOf(1), 8);
        Check.same("25: two ticks behind is not", show.channelOf(2), 1);
        Check.same("25: setGap(1)", show.setGap(1), 2);
        Check.same("25: a tick behind is enough", show.channelOf(1), 1);
        Check.same("25: setGap(3)", show.setGap(3), 1);
        Check.same("25: a third box", show.channelOf(2), 16);
        Check.same("25: setGap(0)", show.setGap(0), 3);
        Check.same("25: setGap(20)", show.setGap(20), 0);
        Check.refused(Check.ARGUMENT, "25: setGap(-1)", () -> show.setGap(-1));
        Check.refused(Check.ARGUMENT, "25: setGap(21)", () -> show.setGap(21));
        Check.same("25: unchanged", show.setGap(0), 20);
        show.cue(10, 0, 0);
        Check.same("25: of the same tick, without a gap", show.channelOf(3), 1);
        Check.same("25: they come one after the other", show.channelOf(1), 2);
    }

    private static void channelOf() {
        MortarShow show = showOf(34, 0);
        int[] due = {0, 1, 2, 3, 4, 5, 8, 9, 10, 11, 12, 13, 16, 17, 18, 19, 20, 21, 24, 25, 26, 27, 28, 29,
            6, 7, 14, 15, 22, 23, 30, 31, -1, -1};
        for (int cue = 0; cue < 34; cue++) {
            Check.same("26: channelOf(" + cue + ")", show.channelOf(cue), due[cue]);
        }
        Check.same("26: the last is dark", show.becomes(33), 3);
        show.kill(1, 6);
        Check.same("26: a dead spare is left out", show.channelOf(26), 15);
        show.cut(0);
        Check.same("26: a cut cue gives its channel up", show.channelOf(33), -1);
        Check.same("26: the next has it", show.channelOf(1), 0);
        Check.refused(Check.INDEX, "26: channelOf(0)", () -> show.channelOf(0));
        Check.refused(Check.INDEX, "26: channelOf(34)", () -> show.channelOf(34));
        Check.refused(Check.INDEX, "26: channelOf(-1)", () -> show.channelOf(-1));
        show.setPeople(0, 0, 1);
        Check.same("26: a struck cue has none", show.channelOf(1), -1);
        spareKeepsItsBoxWaiting();
        earliestFirst();
    }

    private static void spareKeepsItsBoxWaiting() {
        MortarShow show = new MortarShow();
        show.setTempo(1);
        for (int channel = 0; channel < 6; channel++) {
            show.kill(0, channel);
            show.kill(1, channel);
        }
        for (int channel = 0; channel < 8; channel++) {
            show.kill(2, channel);
            show.kill(3, channel);
        }
        for (int beat = 10; beat < 14; beat++) {
            show.cue(beat, 0, 0);
        }
        int[] due = {6, 14, 7, 15};
        for (int cue = 0; cue < 4; cue++) {
            Check.same("26: spares keep the gap too, cue " + cue, show.channelOf(cue), due[cue]);
        }
        show.setGap(3);
        Check.same("26: dark within the gap", show.channelOf(2), -1);
        Check.same("26: a dark cue keeps no box waiting", show.channelOf(3), 7);
    }

    private static void earliestFirst() {
        MortarShow show = new MortarShow();
        show.setShell(1, 200, 1, 0);
        show.cue(10, 0, 0);
        show.cue(10, 1, 0);
        show.cue(1, 1, 0);
        show.cue(0, 0, 0);
        Check.same("26: by the ticks, the last", show.channelOf(0), 2);
        Check.same("26: by the ticks, in the middle", show.channelOf(1), 1);
        Check.same("26: by the ticks, the tick 0", show.channelOf(2), 0);
        Check.same("26: too early", show.channelOf(3), -1);
    }

    private static void cueOn() {
        MortarShow show = showOf(8, 0);
        Check.same("27: cueOn(0, 5)", show.cueOn(0, 5), 5);
        Check.same("27: cueOn(1, 0)", show.cueOn(1, 0), 6);
        Check.same("27: cueOn(1, 2)", show.cueOn(1, 2), -1);
        Check.same("27: cueOn(0, 6)", show.cueOn(0, 6), -1);
        Check.same("27: cueOn(3, 7)", show.cueOn(3, 7), -1);
        show.kill(0, 5);
        Check.same("27: a dead channel", show.cueOn(0, 5), -1);
        show.cut(7);
        Check.same("27: cueOn(1, 0) then", show.cueOn(1, 0), 5);
        Check.same("27: cueOn(1, 1) then", show.cueOn(1, 1), 6);
        int[][] bad = {{-1, 0}, {4, 0}, {0, -1}, {0, 8}};
        for (int[] b : bad) {
            Check.refused(Check.ARGUMENT, "27: cueOn", () -> show.cueOn(b[0], b[1]));
        }
    }

    private static void spares() {
        MortarShow show = showOf(24, 0);
        Check.same("28: no spare is needed", show.spares(), 0);
        for (int more = 1; more <= 8; more++) {
            show.cue(10, 0, 0);
            Check.same("28: spares()", show.spares(), more);
        }
        show.cue(10, 0, 0);
        Check.same("28: there are no more", show.spares(), 8);
        show.kill(2, 6);
        Check.same("28: a dead one", show.spares(), 7);
        show.setPeople(0, 0, 1);
        Check.same("28: all cues are struck", show.spares(), 0);
    }
}
