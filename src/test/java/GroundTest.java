/** Promises 1 to 9: a new object, the ground, racks, shells and the wind. */
public final class GroundTest {
    private GroundTest() {
    }

    public static void main(String[] args) {
        newObject();
        setRack();
        setShell();
        setWind();
        setPeople();
        setValue();
        peopled();
        flight();
        inLayer();
        Check.end("GroundTest");
    }

    private static void newObject() {
        MortarShow show = new MortarShow();
        Check.same("1: cues()", show.cues(), 0);
        Check.same("1: fired()", show.fired(), 0);
        Check.same("1: closed()", show.closed(), 0);
        Check.same("1: spares()", show.spares(), 0);
        Check.same("1: total()", show.total(), 0);
        Check.same("1: peopled()", show.peopled(), 0);
        for (int at = 0; at < 8; at++) {
            for (int line = 0; line < 8; line++) {
                Check.same("1: people before", show.setPeople(at, line, 0), 0);
                Check.same("1: value before", show.setValue(at, line, 0), 0);
            }
            for (int box = 0; box < 4; box++) {
                Check.same("1: cueOn", show.cueOn(box, at), -1);
            }
        }
        for (int rack = 0; rack < 6; rack++) {
            Check.same("1: rack " + rack, show.setRack(rack, 0, 0), 0);
        }
        for (int kind = 0; kind < 4; kind++) {
            Check.same("1: flight " + kind, show.flight(kind), 13);
        }
        for (int hour = 0; hour < 10; hour++) {
            Check.same("1: rate " + hour, show.setRate(hour, 1), 1);
        }
        Check.same("1: tempo", show.setTempo(20), 20);
        Check.same("1: gap", show.setGap(2), 2);
        Check.same("1: cue", show.cue(0, 0, 0), 0);
        Check.same("1: no wind x", show.falls(0, 0), 50);
        Check.same("1: no wind y", show.falls(0, 1), 50);
        Check.same("1: radius", show.danger(0), 1L);
        Check.same("1: height of the burst", show.burstAt(0, 2), 150);
        MortarShow other = new MortarShow();
        Check.same("1: objects share nothing", other.cues(), 0);
    }

    private static void setRack() {
        MortarShow show = new MortarShow();
        Check.same("2: setRack(0, 3, 4)", show.setRack(0, 3, 4), 0);
        Check.same("2: setRack(5, 7, 7)", show.setRack(5, 7, 7), 0);
        Check.same("2: setRack(5, 0, 7)", show.setRack(5, 0, 7), 63);
        Check.same("2: setRack(5, 7, 0)", show.setRack(5, 7, 0), 56);
        Check.same("2: setRack(5, 0, 0)", show.setRack(5, 0, 0), 7);
        show.cue(9, 0, 0);
        Check.same("2: a shell starts in the middle, x", show.falls(0, 0), 350);
        Check.same("2: a shell starts in the middle, y", show.falls(0, 1), 450);
        show.setRack(0, 6, 1);
        Check.same("2: a rack moves under its cues", show.danger(0), 1L << 14);
        int[][] bad = {{-1, 0, 0}, {6, 0, 0}, {0, -1, 0}, {0, 8, 0}, {0, 0, -1}, {0, 0, 8}};
        for (int[] b : bad) {
            Check.refused(Check.ARGUMENT, "2: setRack", () -> show.setRack(b[0], b[1], b[2]));
        }
        Check.same("2: unchanged", show.setRack(0, 0, 0), 14);
    }

    private static void setShell() {
        MortarShow show = new MortarShow();
        int[][] lifts = {{1, 1}, {9, 1}, {10, 1}, {11, 2}, {50, 5}, {55, 6}, {199, 20}, {200, 20}};
        for (int[] lift : lifts) {
            Check.same("3: lift of the speed " + lift[0], show.setShell(3, lift[0], 1, 3), lift[1]);
        }
        show.cue(10, 3, 0);
        Check.same("3: fires", show.fires(0), 180);
        show.setShell(3, 5, 100, 0);
        Check.same("3: a cue follows its kind", show.fires(0), 199);
        int[][] bad = {{-1, 1, 1, 0}, {4, 1, 1, 0}, {3, 0, 1, 0}, {3, 201, 1, 0}, {3, 1, 0, 0},
            {3, 1, 101, 0}, {3, 1, 1, -1}, {3, 1, 1, 4}};
        for (int[] b : bad) {
            Check.refused(Check.ARGUMENT, "3: setShell", () -> show.setShell(b[0], b[1], b[2], b[3]));
        }
        Check.same("3: unchanged", show.fires(0), 199);
        Check.same("3: other kinds unchanged", show.flight(2), 13);
    }

    private static void setWind() {
        MortarShow show = new MortarShow();
        for (int cue = 0; cue < 3; cue++) {
            show.cue(cue + 1, cue, 0);
        }
        show.setShell(2, 1, 1, 0);
        show.setPeople(2, 0, 1);
        Check.same("4: two of three become struck", show.setWind(0, 15, 0), 2);
        Check.same("4: those that were struck do not count", show.setWind(0, 16, 0), 0);
        Check.same("4: cue 0", show.becomes(0), 1);
        Check.same("4: cue 2", show.becomes(2), 0);
        Check.same("4: cues that are struck no more do not count", show.setWind(0, 100, 0), 1);
        Check.same("4: cue 0 then", show.becomes(0), 0);
        Check.same("4: cue 2 then", show.becomes(2), 1);
        int[][] good = {{0, -100, 100}, {3, 100, -100}, {1, 0, 0}, {2, 0, 0}};
        for (int[] g : good) {
            show.setWind(g[0], g[1], g[2]);
        }
        int[][] bad = {{-1, 0, 0}, {4, 0, 0}, {0, -101, 0}, {0, 101, 0}, {0, 0, -101}, {0, 0, 101}};
        for (int[] b : bad) {
            Check.refused(Check.ARGUMENT, "4: setWind", () -> show.setWind(b[0], b[1], b[2]));
        }
        Check.same("4: x unchanged", show.falls(0, 0), 50 - 1300);
        Check.same("4: y unchanged", show.falls(0, 1), 50 + 1300);
    }

    private static void setPeople() {
        MortarShow show = new MortarShow();
        show.cue(5, 0, 0);
        Check.same("5: none at first", show.setPeople(0, 0, 2147483647), 0);
        Check.same("5: struck", show.becomes(0), 1);
        Check.same("5: before", show.setPeople(0, 0, 1), 2147483647);
        Check.same("5: struck by one", show.becomes(0), 1);
        Check.same("5: before again", show.setPeople(0, 0, 0), 1);
        Check.same("5: struck no more", show.becomes(0), 0);
        Check.same("5: another zone", show.setPeople(7, 0, 3), 0);
        Check.same("5: its opposite", show.setPeople(0, 7, 4), 0);
        int[][] bad = {{-1, 0, 1}, {8, 0, 1}, {0, -1, 1}, {0, 8, 1}, {7, 0, -1}, {7, 0, -2147483648}};
        for (int[] b : bad) {
            Check.refused(Check.ARGUMENT, "5: setPeople", () -> show.setPeople(b[0], b[1], b[2]));
        }
        Check.same("5: unchanged", show.setPeople(7, 0, 0), 3);
    }

    private static void setValue() {
        MortarShow show = new MortarShow();
        Check.same("6: none at first", show.setValue(7, 7, 100000000), 0);
        Check.same("6: before", show.setValue(7, 7, 9), 100000000);
        Check.same("6: another zone", show.setValue(7, 0, 8), 0);
        Check.same("6: its opposite", show.setValue(0, 7, 5), 0);
        int[][] bad = {{-1, 0, 1}, {8, 0, 1}, {0, -1, 1}, {0, 8, 1}, {7, 7, -1}, {7, 7, 100000001}};
        for (int[] b : bad) {
            Check.refused(Check.ARGUMENT, "6: setValue", () -> show.setValue(b[0], b[1], b[2]));
        }
        Check.same("6: unchanged", show.setValue(7, 7, 0), 9);
        Check.same("6: to nothing", show.setValue(7, 7, 1), 0);
    }

    private static void peopled() {
        MortarShow show = new MortarShow();
        show.setPeople(0, 0, 5);
        show.setPeople(7, 7, 1);
        show.setPeople(3, 3, 2147483647);
        Check.same("7: peopled()", show.peopled(), 3);
        show.setPeople(0, 0, 6);
        Check.same("7: a zone counts once", show.peopled(), 3);
        show.setPeople(0, 0, 0);
        Check.same("7: peopled() then", show.peopled(), 2);
        show.setValue(1, 1, 7);
        Check.same("7: values do not count", show.peopled(), 2);
        for (int zone = 0; zone < 64; zone++) {
            show.setPeople(zone % 8, zone / 8, 1);
        }
        Check.same("7: all", show.peopled(), 64);
    }

    private static void flight() {
        MortarShow show = new MortarShow();
        int[][] flights = {{50, 20, 13}, {55, 20, 15}, {200, 1, 2120}, {1, 1, 2}, {1, 100, 2}, {10, 10, 2},
            {10, 9, 3}, {200, 100, 41}, {100, 50, 21}, {30, 7, 12}};
        for (int[] f : flights) {
            show.setShell(2, f[0], f[1], 0);
            Check.same("8: flight of " + f[0] + ", " + f[1], show.flight(2), f[2]);
        }
        Check.same("8: another kind", show.flight(3), 13);
        Check.refused(Check.ARGUMENT, "8: flight(-1)", () -> show.flight(-1));
        Check.refused(Check.ARGUMENT, "8: flight(4)", () -> show.flight(4));
    }

    private static void inLayer() {
        MortarShow show = new MortarShow();
        show.setShell(0, 200, 1, 3);
        // Heights of rising: 0 200 390 570 740 900; falling from 2100, 1350 ticks are at 750 or more.
        int[] due = {251, 251, 252, 1366};
        int sum = 0;
        for (int layer = 0; layer < 4; layer++) {
            Check.same("9: inLayer(0, " + layer + ")", show.inLayer(0, layer), due[layer]);
            sum += show.inLayer(0, layer);
        }
        Check.same("9: all layers", sum, show.flight(0));
        // Up by 250 in ticks of 70 60 50 40 30, and then the height 280.
        show.setShell(1, 70, 30, 0);
        Check.same("9: the height 250 is in the layer 1", show.inLayer(1, 1), 4);
        Check.same("9: the rest is in the layer 0", show.inLayer(1, 0), show.flight(1) - 4);
        Check.same("9: nothing above", show.inLayer(1, 2) + show.inLayer(1, 3), 0);
        Check.same("9: the last kind", show.inLayer(3, 0), 13);
        int[][] bad = {{-1, 0}, {4, 0}, {0, -1}, {0, 4}};
        for (int[] b : bad) {
            Check.refused(Check.ARGUMENT, "9: inLayer", () -> show.inLayer(b[0], b[1]));
        }
    }
}
