/** Promises 20 to 23: the show. */
public final class ShowTest {
    private ShowTest() {
    }

    public static void main(String[] args) {
        cues();
        fired();
        firing();
        closed();
        Check.end("ShowTest");
    }

    /** The rack 1 is among people; every box takes several shells of a tick. */
    private static MortarShow show() {
        MortarShow show = new MortarShow();
        show.setRack(1, 5, 5);
        show.setPeople(5, 5, 1);
        show.setGap(0);
        return show;
    }

    private static void cues() {
        MortarShow show = show();
        for (int made = 1; made <= 40; made++) {
            show.cue(made, 0, made % 2);
            Check.same("20: cues()", show.cues(), made);
        }
        Check.refused(Check.STATE, "20: the 41st", () -> show.cue(1, 0, 0));
        Check.same("20: a refused cue does not count", show.cues(), 40);
        for (int cut = 0; cut < 40; cut++) {
            show.cut(cut);
            Check.same("20: cues() left", show.cues(), 39 - cut);
        }
    }

    private static void fired() {
        MortarShow show = show();
        show.cue(3, 0, 0);
        show.cue(3, 0, 1);
        show.cue(0, 0, 0);
        Check.same("21: neither struck nor too early", show.fired(), 1);
        show.setPeople(5, 5, 0);
        Check.same("21: struck no more", show.fired(), 2);
        show.setGap(1);
        for (int cue = 3; cue < 10; cue++) {
            show.cue(3, 0, 0);
        }
        Check.same("21: dark cues do not count", show.fired(), 4);
        show.setGap(0);
        Check.same("21: dark no more", show.fired(), 9);
        for (int box = 0; box < 4; box++) {
            for (int channel = 0; channel < 8; channel++) {
                show.kill(box, channel);
            }
        }
        Check.same("21: all boxes are dead", show.fired(), 0);
    }

    private static void firing() {
        MortarShow show = show();
        show.setShell(1, 200, 1, 0);
        show.cue(9, 0, 0);
        show.cue(2, 0, 0);
        show.cue(5, 0, 1);
        show.cue(2, 0, 0);
        show.cue(3, 1, 0);
        show.cue(10, 0, 0);
        show.cue(2, 0, 0);
        // Fired at 155 (the beat 5 closes up), 35, -, 35, 40, 175, 35.
        int[] due = {1, 3, 6, 4, 0, 5};
        for (int place = 0; place < due.length; place++) {
            Check.same("22: firing(" + place + ")", show.firing(place), due[place]);
        }
        Check.refused(Check.INDEX, "22: firing(-1)", () -> show.firing(-1));
        Check.refused(Check.INDEX, "22: firing(6)", () -> show.firing(6));
        Check.refused(Check.INDEX, "22: firing(2147483647)", () -> show.firing(2147483647));
        show.setGap(1);
        for (int box = 1; box < 4; box++) {
            for (int channel = 0; channel < 8; channel++) {
                show.kill(box, channel);
            }
        }
        int[] lit = {1, 4, 0, 5};
        for (int place = 0; place < lit.length; place++) {
            Check.same("22: dark cues have no place", show.firing(place), lit[place]);
        }
        Check.refused(Check.INDEX, "22: firing(4)", () -> show.firing(4));
    }

    private static void closed() {
        MortarShow show = show();
        show.cue(0, 0, 1);
        Check.same("23: the beat 0", show.closed(), 1);
        show.cue(100, 0, 1);
        Check.same("23: the last beat", show.closed(), 2);
        show.cue(100, 0, 1);
        Check.same("23: a beat counts once", show.closed(), 2);
        Check.same("23: only earlier beats close it up", show.bursts(1), 99 * 20);
        show.cue(100, 0, 0);
        Check.same("23: not all of them are struck", show.closed(), 1);
        show.cut(3);
        Check.same("23: cut cues are not there", show.closed(), 2);
        show.cue(50, 0, 0);
        show.setTempo(1);
        show.setShell(0, 200, 1, 0);
        show.cut(4);
        show.cue(1, 0, 0);
        Check.same("23: a beat of cues that are too early", show.closed(), 2);
        show.cut(0);
        show.cut(1);
        show.cut(2);
        Check.same("23: none are left", show.closed(), 0);
    }
}
