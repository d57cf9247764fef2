/** Edges of "Cues" and "Boxes" in the promises 20 to 23, a sentence a method. */
public final class ShowEdgeTest {
    private ShowEdgeTest() {
    }

    public static void main(String[] args) {
        cuesFromNoneToForty();
        firedFromNoneToAllChannels();
        firedLeavesOutWhatIsNot();
        placesOfAnEmptyShow();
        placesOfAFullShow();
        placesByTicksThenNumbers();
        darkCuesHaveNoPlace();
        closedFromNoneToForty();
        closedOfBeatsAllOfWhichAreStruck();
        Check.end("ShowEdgeTest");
    }

    private static MortarShow showOfOneTick(int cues) {
        MortarShow show = new MortarShow();
        show.setGap(0);
        for (int cue = 0; cue < cues; cue++) {
            show.cue(1, 0, 0);
        }
        return show;
    }

    /** "Returns how many cues are there." */
    private static void cuesFromNoneToForty() {
        MortarShow show = new MortarShow();
        Check.same("20: none", show.cues(), 0);
        for (int made = 1; made <= 40; made++) {
            show.cue(0, 0, 0);
            Check.same("20: cues()", show.cues(), made);
        }
        Check.refused(Check.STATE, "20: the 41st", () -> show.cue(0, 0, 0));
        Check.same("20: all 40", show.cues(), 40);
        show.cut(39);
        Check.refused(Check.INDEX, "20: cut(39) again", () -> show.cut(39));
        Check.refused(Check.STATE, "20: the 41st still", () -> show.cue(0, 0, 0));
        Check.same("20: one is cut", show.cues(), 39);
        show.setPeople(0, 0, 1);
        Check.same("20: struck cues are there", show.cues(), 39);
    }

    /** "Returns how many cues are fired": not more than there are channels. */
    private static void firedFromNoneToAllChannels() {
        MortarShow show = showOfOneTick(0);
        Check.same("21: none", show.fired(), 0);
        for (int made = 1; made <= 40; made++) {
            show.cue(1, 0, 0);
            Check.same("21: fired()", show.fired(), Math.min(made, 32));
        }
        for (int at = 0; at < 32; at++) {
            show.kill(at / 8, at % 8);
            Check.same("21: with a channel less", show.fired(), 31 - at);
        }
        show.kill(3, 7);
        Check.same("21: with one sound channel", show.fired(), 1);
    }

    /** "A cue is fired, if it is neither struck, nor too early, nor dark." */
    private static void firedLeavesOutWhatIsNot() {
        MortarShow show = showOfOneTick(1);
        Check.same("21: fired", show.fired(), 1);
        show.setPeople(0, 0, 1);
        Check.same("21: struck", show.fired(), 0);
        show.setPeople(0, 0, 0);
        show.setTempo(4);
        Check.same("21: too early", show.fired(), 0);
        show.setTempo(5);
        Check.same("21: fired at the tick 0", show.fired(), 1);
        for (int at = 0; at < 32; at++) {
            show.kill(at / 8, at % 8);
        }
        Check.same("21: dark", show.fired(), 0);
    }

    /** "if there is no such place". */
    private static void placesOfAnEmptyShow() {
        MortarShow show = showOfOneTick(0);
        Check.refused(Check.INDEX, "22: without cues", () -> show.firing(0));
        Check.refused(Check.INDEX, "22: below 0 without cues", () -> show.firing(-1));
        show.cue(1, 0, 0);
        Check.range(Check.INDEX, "22: one place", 0, 0, place -> show.firing(place));
        show.setPeople(0, 0, 1);
        Check.refused(Check.INDEX, "22: the only cue is struck", () -> show.firing(0));
        show.setPeople(0, 0, 0);
        Check.same("22: it is not any more", show.firing(0), 0);
        show.cut(0);
        Check.refused(Check.INDEX, "22: the only cue is cut", () -> show.firing(0));
    }

    private static void placesOfAFullShow() {
        MortarShow show = showOfOneTick(40);
        for (int place = 0; place < 32; place++) {
            Check.same("22: firing(" + place + ")", show.firing(place), place);
        }
        Check.range(Check.INDEX, "22: all channels", 0, 31, place -> show.firing(place));
        show.cut(0);
        Check.same("22: the first is another one", show.firing(0), 1);
        Check.same("22: the last was dark", show.firing(31), 32);
        show.setGap(1);
        Check.range(Check.INDEX, "22: one of each box", 0, 3, place -> show.firing(place));
    }

    /** "by the ticks at which they are, of the same tick the lower number first". */
    private static void placesByTicksThenNumbers() {
        MortarShow show = new MortarShow();
        show.setGap(0);
        show.setShell(1, 60, 20, 0);
        show.setTempo(1);
        // The lifts are 5 and 6: fired at 7, 7, 6, 8, 7, 0.
        int[][] cues = {{12, 0}, {13, 1}, {12, 1}, {13, 0}, {12, 0}, {5, 0}};
        for (int[] c : cues) {
            show.cue(c[0], c[1], 0);
        }
        int[] due = {5, 2, 0, 1, 4, 3};
        for (int place = 0; place < due.length; place++) {
            Check.same("22: firing(" + place + ")", show.firing(place), due[place]);
        }
        Check.range(Check.INDEX, "22: six places", 0, 5, place -> show.firing(place));
    }

    /** "Returns a cue that is fired": those behind a dark one move up. */
    private static void darkCuesHaveNoPlace() {
        MortarShow show = new MortarShow();
        show.setTempo(1);
        // The channels 0 and 1 of the box 0: for the cues at the ticks 0 and 2, but for none of 1 and 3.
        for (int at = 2; at < 32; at++) {
            show.kill(at / 8, at % 8);
        }
        for (int beat = 5; beat < 9; beat++) {
            show.cue(beat, 0, 0);
        }
        int[] due = {0, 2};
        for (int place = 0; place < due.length; place++) {
            Check.same("22: firing(" + place + ")", show.firing(place), due[place]);
        }
        Check.range(Check.INDEX, "22: two places", 0, 1, place -> show.firing(place));
        Check.same("13: dark", show.becomes(1), 3);
        show.kill(0, 0);
        show.kill(0, 1);
        Check.refused(Check.INDEX, "22: all cues are dark", () -> show.firing(0));
    }

    /** "how many beats have cues all of which are struck". */
    private static void closedFromNoneToForty() {
        MortarShow show = new MortarShow();
        Check.same("23: without cues", show.closed(), 0);
        show.setPeople(0, 0, 1);
        Check.same("23: beats without cues", show.closed(), 0);
        for (int made = 1; made <= 40; made++) {
            show.cue(made == 1 ? 100 : made - 2, 0, 0);
            Check.same("23: closed()", show.closed(), made);
        }
        show.setPeople(0, 0, 0);
        Check.same("23: none is struck", show.closed(), 0);
    }

    private static void closedOfBeatsAllOfWhichAreStruck() {
        MortarShow show = new MortarShow();
        show.setRack(1, 5, 5);
        show.setPeople(5, 5, 1);
        show.cue(0, 0, 1);
        Check.same("23: the first beat", show.closed(), 1);
        show.cue(100, 0, 1);
        Check.same("23: and the last", show.closed(), 2);
        show.cue(100, 0, 1);
        Check.same("23: a beat counts once", show.closed(), 2);
        show.cue(100, 0, 0);
        Check.same("23: all but one", show.closed(), 1);
        show.cut(3);
        Check.same("23: all again", show.closed(), 2);
        show.cut(1);
        show.cut(2);
        Check.same("23: none is left on the beat 100", show.closed(), 1);
        show.cue(1, 0, 0);
        show.setTempo(1);
        Check.same("23: it is too early", show.becomes(4), 2);
        Check.same("23: that does not close up", show.closed(), 1);
    }
}
