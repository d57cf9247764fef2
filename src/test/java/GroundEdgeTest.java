/** Edges of "Ground, racks, shells", of "Flights" and of the promises 1 to 9, a sentence a method. */
public final class GroundEdgeTest {
    private static final int MOST = Integer.MAX_VALUE;

    private GroundEdgeTest() {
    }

    public static void main(String[] args) {
        beginsWithoutCues();
        beginsWithoutWind();
        beginsWithoutPeople();
        beginsWithItsFirstValues();
        rackRanges();
        rackReturnsWhereItWas();
        shellRanges();
        liftOfEverySpeed();
        radiusFromZeroToThree();
        windRanges();
        windDrivesByItsEnds();
        windCountsStruckCues();
        peopleRanges();
        onePersonIsPeople();
        peopleDoNotWrapAround();
        valueRanges();
        peopledFromNoneToAll();
        flightRange();
        burstAtSpeedZero();
        groundAtHeightZero();
        fallBeginsBehindTheBurst();
        inLayerRanges();
        layersBegin();
        layerThreeIsAllAbove();
        Check.end("GroundEdgeTest");
    }

    /** "Begins without cues, wind and people." */
    private static void beginsWithoutCues() {
        MortarShow show = new MortarShow();
        Check.same("1: cues()", show.cues(), 0);
        Check.same("1: fired()", show.fired(), 0);
        Check.same("1: closed()", show.closed(), 0);
        Check.same("1: spares()", show.spares(), 0);
        Check.same("1: total()", show.total(), 0);
        Check.refused(Check.INDEX, "1: becomes(0)", () -> show.becomes(0));
        Check.refused(Check.INDEX, "1: firing(0)", () -> show.firing(0));
        for (int at = 0; at < 32; at++) {
            Check.same("1: cueOn", show.cueOn(at / 8, at % 8), -1);
        }
    }

    private static void beginsWithoutWind() {
        MortarShow show = new MortarShow();
        show.setShell(0, 200, 1, 0);
        show.cue(0, 0, 0);
        for (int layer = 0; layer < 4; layer++) {
            Check.same("1: it passes the layer " + layer, show.inLayer(0, layer) > 0, true);
        }
        for (int what = 0; what < 2; what++) {
            Check.same("1: falls without wind", show.falls(0, what), 50);
            Check.same("1: fallsBySteps without wind", show.fallsBySteps(0, what), 50);
            Check.same("1: bursts without wind", show.burstAt(0, what), 50);
        }
    }

    private static void beginsWithoutPeople() {
        MortarShow show = new MortarShow();
        Check.same("1: peopled()", show.peopled(), 0);
        for (int zone = 0; zone < 64; zone++) {
            Check.same("1: people", show.setPeople(zone % 8, zone / 8, 1), 0);
        }
    }

    /** "in the zone in the column 0 and the line 0 at first", "50 at first", "20 at first", "0 at first". */
    private static void beginsWithItsFirstValues() {
        MortarShow show = new MortarShow();
        for (int rack = 0; rack < 6; rack++) {
            Check.same("1: rack", show.setRack(rack, 0, 0), 0);
        }
        for (int kind = 0; kind < 4; kind++) {
            show.cue(1, kind, kind);
            // Up to 150 in 5 ticks, and 8 ticks of 20 down.
            Check.same("1: flight", show.flight(kind), 13);
            Check.same("1: height of the burst", show.burstAt(kind, 2), 150);
            Check.same("1: fires", show.fires(kind), 15);
            Check.same("1: radius", show.danger(kind), 1L);
        }
        for (int zone = 0; zone < 64; zone++) {
            Check.same("1: value", show.setValue(zone % 8, zone / 8, 1), 0);
        }
        for (int hour = 0; hour < 10; hour++) {
            Check.same("1: rate", show.setRate(hour, 0), 1);
        }
        for (int at = 0; at < 32; at++) {
            Check.same("1: sound, so killing makes dead", show.kill(at / 8, at % 8), true);
        }
        Check.same("1: tempo", show.setTempo(1), 20);
        Check.same("1: gap", show.setGap(0), 2);
    }

    private static void rackRanges() {
        MortarShow show = new MortarShow();
        Check.range(Check.ARGUMENT, "2: setRack, rack", 0, 5, rack -> show.setRack(rack, 1, 1));
        Check.range(Check.ARGUMENT, "2: setRack, column", 0, 7, column -> show.setRack(0, column, 1));
        Check.range(Check.ARGUMENT, "2: setRack, line", 0, 7, line -> show.setRack(0, 1, line));
    }

    /** "Returns 8 times the line where it was, and the column, together." */
    private static void rackReturnsWhereItWas() {
        MortarShow show = new MortarShow();
        show.cue(1, 0, 5);
        int[][] zones = {{7, 7, 63}, {0, 7, 56}, {7, 0, 7}, {0, 1, 8}, {1, 0, 1}, {0, 0, 0}};
        int before = 0;
        for (int[] zone : zones) {
            Check.same("2: setRack", show.setRack(5, zone[0], zone[1]), before);
            Check.same("2: where it is, x", show.falls(0, 0), 100 * zone[0] + 50);
            Check.same("2: where it is, y", show.falls(0, 1), 100 * zone[1] + 50);
            before = zone[2];
        }
        Check.same("2: the other racks stand", show.setRack(0, 0, 0), 0);
    }

    private static void shellRanges() {
        MortarShow show = new MortarShow();
        Check.range(Check.ARGUMENT, "3: setShell, kind", 0, 3, kind -> show.setShell(kind, 50, 20, 0));
        Check.range(Check.ARGUMENT, "3: setShell, speed", 1, 200, speed -> show.setShell(0, speed, 20, 0));
        Check.range(Check.ARGUMENT, "3: setShell, fall", 1, 100, fall -> show.setShell(0, 50, fall, 0));
        Check.range(Check.ARGUMENT, "3: setShell, radius", 0, 3, radius -> show.setShell(0, 50, 20, radius));
    }

    /** "Returns its lift": from 1 tick to 20, one more with each 10 of speed that are begun. */
    private static void liftOfEverySpeed() {
        MortarShow show = new MortarShow();
        for (int speed = 1; speed <= 200; speed++) {
            int due = (speed + 9) / 10;
            Check.same("3: lift of the speed " + speed, show.setShell(speed % 4, speed, 100, 0), due);
        }
    }

    private static void radiusFromZeroToThree() {
        MortarShow show = new MortarShow();
        show.setRack(0, 3, 3);
        show.cue(1, 0, 0);
        int[] zones = {1, 9, 25, 49};
        for (int radius = 0; radius < 4; radius++) {
            show.setShell(0, 50, 20, radius);
            Check.same("3: zones within " + radius, Long.bitCount(show.danger(0)), zones[radius]);
        }
    }

    private static void windRanges() {
        MortarShow show = new MortarShow();
        Check.range(Check.ARGUMENT, "4: setWind, layer", 0, 3, layer -> show.setWind(layer, 1, 1));
        Check.range(Check.ARGUMENT, "4: setWind, x", -100, 100, x -> show.setWind(0, x, 1));
        Check.range(Check.ARGUMENT, "4: setWind, y", -100, 100, y -> show.setWind(0, 1, y));
    }

    private static void windDrivesByItsEnds() {
        MortarShow show = new MortarShow();
        show.setShell(0, 200, 1, 0);
        show.cue(0, 0, 0);
        for (int layer = 0; layer < 4; layer++) {
            int ticks = show.inLayer(0, layer);
            show.setWind(layer, -100, 100);
            Check.same("4: x in the layer " + layer, show.falls(0, 0), 50 - 100 * ticks);
            Check.same("4: y in the layer " + layer, show.falls(0, 1), 50 + 100 * ticks);
            show.setWind(layer, 100, -100);
            Check.same("4: x in the layer " + layer, show.falls(0, 0), 50 + 100 * ticks);
            Check.same("4: y in the layer " + layer, show.falls(0, 1), 50 - 100 * ticks);
            show.setWind(layer, 0, 0);
        }
        Check.same("4: no wind again, x", show.falls(0, 0), 50);
    }

    /** "Returns how many cues become struck by that that were not": from none to all 40. */
    private static void windCountsStruckCues() {
        MortarShow show = new MortarShow();
        show.setPeople(1, 0, 1);
        Check.same("4: there are no cues", show.setWind(0, 8, 0), 0);
        show.setWind(0, 0, 0);
        for (int cue = 0; cue < 40; cue++) {
            // Of these some are fired, some too early, some dark.
            show.cue(cue % 4, 0, 0);
        }
        Check.same("4: all 40", show.setWind(0, 8, 0), 40);
        Check.same("4: all were struck", show.setWind(0, 9, 0), 0);
        Check.same("4: none is struck then", show.setWind(0, 0, 0), 0);
        show.cut(0);
        show.cut(39);
        Check.same("4: cues that are cut do not count", show.setWind(0, 8, 0), 38);
        show.setWind(0, 0, 0);
        for (int cue = 1; cue < 39; cue++) {
            show.cut(cue);
        }
        Check.same("4: none are left", show.setWind(0, 8, 0), 0);
    }

    private static void peopleRanges() {
        MortarShow show = new MortarShow();
        Check.range(Check.ARGUMENT, "5: setPeople, column", 0, 7, column -> show.setPeople(column, 1, 1));
        Check.range(Check.ARGUMENT, "5: setPeople, line", 0, 7, line -> show.setPeople(1, line, 1));
        Check.range(Check.ARGUMENT, "5: setPeople, people", 0, MOST, people -> show.setPeople(1, 1, people));
        Check.same("5: the most that were there", show.setPeople(1, 1, 0), MOST);
        Check.same("5: none that were there", show.setPeople(1, 1, 1), 0);
    }

    /** "A cue is struck, if there are people in its danger": one is enough, none are not. */
    private static void onePersonIsPeople() {
        MortarShow show = new MortarShow();
        show.cue(1, 0, 0);
        Check.same("5: none", show.becomes(0), 0);
        show.setPeople(0, 0, 1);
        Check.same("5: one", show.becomes(0), 1);
        show.setPeople(0, 0, MOST);
        Check.same("5: the most", show.becomes(0), 1);
        show.setPeople(0, 0, 0);
        Check.same("5: none again", show.becomes(0), 0);
    }

    private static void peopleDoNotWrapAround() {
        MortarShow show = new MortarShow();
        show.setShell(0, 50, 20, 1);
        show.cue(1, 0, 0);
        show.setPeople(0, 0, MOST);
        show.setPeople(1, 0, MOST);
        Check.same("5: more than an int holds", show.becomes(0), 1);
        show.setPeople(0, 1, 2);
        Check.same("5: 2 to the 32nd of them", show.becomes(0), 1);
    }

    private static void valueRanges() {
        MortarShow show = new MortarShow();
        Check.range(Check.ARGUMENT, "6: setValue, column", 0, 7, column -> show.setValue(column, 1, 1));
        Check.range(Check.ARGUMENT, "6: setValue, line", 0, 7, line -> show.setValue(1, line, 1));
        Check.range(Check.ARGUMENT, "6: setValue, value", 0, 100000000, value -> show.setValue(1, 1, value));
        Check.same("6: the greatest before", show.setValue(1, 1, 0), 100000000);
        Check.same("6: the least before", show.setValue(1, 1, 1), 0);
    }

    /** "Returns how many zones have people." */
    private static void peopledFromNoneToAll() {
        MortarShow show = new MortarShow();
        Check.same("7: none", show.peopled(), 0);
        for (int zone = 0; zone < 64; zone++) {
            show.setPeople(zone % 8, zone / 8, zone == 63 ? MOST : 1);
            Check.same("7: peopled()", show.peopled(), zone + 1);
        }
        show.setPeople(7, 7, 0);
        Check.same("7: all but one", show.peopled(), 63);
    }

    private static void flightRange() {
        MortarShow show = new MortarShow();
        Check.range(Check.ARGUMENT, "8: flight, kind", 0, 3, kind -> show.flight(kind));
        int[][] flights = {{1, 100, 2}, {1, 1, 2}, {200, 1, 2120}, {200, 100, 41}};
        for (int[] f : flights) {
            show.setShell(3, f[0], f[1], 0);
            Check.same("8: flight of " + f[0] + " and " + f[1], show.flight(3), f[2]);
        }
    }

    /** "it bursts, if its speed is 0 or less then". */
    private static void burstAtSpeedZero() {
        MortarShow show = new MortarShow();
        show.cue(1, 0, 0);
        int[][] shells = {{9, 9}, {10, 10}, {11, 12}, {20, 30}, {21, 33}};
        for (int[] s : shells) {
            show.setShell(0, s[0], 1, 0);
            Check.same("8: height of the burst of " + s[0], show.burstAt(0, 2), s[1]);
            Check.same("8: fires", show.fires(0), 20 - (s[0] + 9) / 10);
        }
    }

    /** "it is on the ground, if its height is 0 or less then". */
    private static void groundAtHeightZero() {
        MortarShow show = new MortarShow();
        // The heights of the burst are 10 and 30.
        int[][] flights = {{10, 9, 3}, {10, 10, 2}, {10, 11, 2}, {20, 14, 5}, {20, 15, 4}, {20, 29, 4}, {20, 30, 3}};
        for (int[] f : flights) {
            show.setShell(0, f[0], f[1], 0);
            Check.same("8: flight of " + f[0] + " and " + f[1], show.flight(0), f[2]);
        }
    }

    /** "when it has burst in an earlier tick, its height falls". */
    private static void fallBeginsBehindTheBurst() {
        MortarShow show = new MortarShow();
        show.cue(1, 0, 0);
        show.setShell(0, 1, 100, 0);
        show.setWind(0, 3, 0);
        Check.same("8: up in a tick, and down in the next", show.flight(0), 2);
        Check.same("8: the first tick", show.burstAt(0, 0), 53);
        Check.same("8: the height", show.burstAt(0, 2), 1);
        Check.same("8: both ticks", show.fallsBySteps(0, 0), 56);
    }

    private static void inLayerRanges() {
        MortarShow show = new MortarShow();
        Check.range(Check.ARGUMENT, "9: inLayer, kind", 0, 3, kind -> show.inLayer(kind, 0));
        Check.range(Check.ARGUMENT, "9: inLayer, layer", 0, 3, layer -> show.inLayer(0, layer));
        Check.same("9: as few as 2", shellIn(1, 100, 0), 2);
        Check.same("9: none at all", shellIn(1, 100, 1), 0);
    }

    private static int shellIn(int speed, int fall, int layer) {
        MortarShow show = new MortarShow();
        show.setShell(2, speed, fall, 0);
        return show.inLayer(2, layer);
    }

    /** "the layers 0 to 3, by heights of 250 each": the heights 250, 500 and 750 are the first of theirs. */
    private static void layersBegin() {
        // They burst at 245 and at 252; by 1 down, 252 to 250 are in the layer 1.
        Check.same("9: never at 250", shellIn(65, 1, 1), 0);
        Check.same("9: three ticks at 250 or more", shellIn(66, 1, 1), 3);
        Check.same("9: 252 and 250", shellIn(66, 2, 1), 2);
        Check.same("9: 252 alone", shellIn(66, 3, 1), 1);
        // Up by 0 100 190 270 340 400 450 490 520 540, bursting at 550, and down by 1.
        int[] due = {3 + 249, 5 + 250, 2 + 51, 0};
        for (int layer = 0; layer < 4; layer++) {
            Check.same("9: from 550 down, layer " + layer, shellIn(100, 1, layer), due[layer]);
        }
        // Up by 0 120 230 330 420 500 570 630 680 720 750 770, bursting at 780: 500 and 750 on the way up.
        int[] high = {3 + 249, 2 + 250, 5 + 250, 2 + 31};
        for (int layer = 0; layer < 4; layer++) {
            Check.same("9: from 780 down, layer " + layer, shellIn(120, 1, layer), high[layer]);
        }
    }

    /** "the layer 3 all above". */
    private static void layerThreeIsAllAbove() {
        // From 2100 down to 750 by 1, and up by 740 900 ... 2070 2090.
        Check.same("9: up to 2100", shellIn(200, 1, 3), 1351 + 15);
        Check.same("9: the others", shellIn(200, 1, 0) + shellIn(200, 1, 1) + shellIn(200, 1, 2), 2120 - 1366);
    }
}
