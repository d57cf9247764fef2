/** Edges of "Prices" and of the promises 29 to 31, a sentence a method. */
public final class PriceEdgeTest {
    private static final int MOST = 2147483647;
    private static final int MOST_VALUE = 100000000;

    private PriceEdgeTest() {
    }

    public static void main(String[] args) {
        rateRanges();
        hoursBeginAndEnd();
        atMostTheHourNine();
        zonesAndOneTogether();
        priceAtTheLimit();
        priceDoesNotWrapAround();
        dearestAndCheapest();
        notFiredGoesAheadOfRefused();
        totalOfNothing();
        totalAtTheLimit();
        totalDoesNotWrapAround();
        totalWithARefusedCue();
        totalLeavesOutWhatIsNotFired();
        totalOfAllChannels();
        Check.end("PriceEdgeTest");
    }

    /** The racks are in the columns of their numbers; a cue on the beat b above 0 is fired in the hour b - 1. */
    private static MortarShow show() {
        MortarShow show = new MortarShow();
        show.setTempo(100);
        show.setGap(0);
        show.setShell(0, 1, 100, 0);
        for (int rack = 0; rack < 6; rack++) {
            show.setRack(rack, rack, 0);
        }
        return show;
    }

    /** A show whose only cue is fired at that tick, and the rate of an hour is 3 more than its number. */
    private static MortarShow firedAt(int tick) {
        MortarShow show = new MortarShow();
        for (int hour = 0; hour < 10; hour++) {
            show.setRate(hour, hour + 3);
        }
        for (int lift = 1; lift <= 20; lift++) {
            for (int tempo = 1; tempo <= 100; tempo++) {
                int beat = (tick + lift) / tempo;
                if (beat * tempo - lift == tick && beat <= 100) {
                    show.setShell(0, 10 * lift, 100, 0);
                    show.setTempo(tempo);
                    show.cue(beat, 0, 0);
                    Check.same("30: fires", show.fires(0), tick);
                    return show;
                }
            }
        }
        Check.report("30: no cue can be fired at the tick " + tick);
        return show;
    }

    private static void rateRanges() {
        MortarShow show = new MortarShow();
        for (int hour = 0; hour < 10; hour++) {
            Check.same("29: the first rate", show.setRate(hour, 100000), 1);
            Check.same("29: the greatest before", show.setRate(hour, 0), 100000);
            Check.same("29: the least before", show.setRate(hour, 1), 0);
        }
        Check.range(Check.ARGUMENT, "29: setRate, hour", 0, 9, hour -> show.setRate(hour, 1));
        Check.range(Check.ARGUMENT, "29: setRate, rate", 0, 100000, rate -> show.setRate(3, rate));
        Check.same("29: the last that was taken", show.setRate(3, 0), 100000);
        Check.same("29: the hour ahead", show.setRate(2, 0), 1);
        Check.same("29: the hour behind", show.setRate(4, 0), 1);
    }

    /** "The hour of a tick is the tick divided by 100, rounded down": of the tick at which it is fired. */
    private static void hoursBeginAndEnd() {
        for (int hour = 0; hour < 9; hour++) {
            Check.same("30: the first tick of the hour " + hour, firedAt(100 * hour).price(0), hour + 3);
            Check.same("30: the last tick of the hour " + hour, firedAt(100 * hour + 99).price(0), hour + 3);
        }
    }

    private static void atMostTheHourNine() {
        for (int tick : new int[] {900, 999, 1000, 1099, 1100, 9989, 9999}) {
            Check.same("30: the tick " + tick + " is of the hour 9", firedAt(tick).price(0), 12);
            Check.same("31: the tick " + tick + " is of the hour 9", firedAt(tick).total(), 12);
        }
    }

    /** "the sum of the values of all zones of its danger, and 1, together, times the rate". */
    private static void zonesAndOneTogether() {
        MortarShow show = show();
        show.cue(1, 0, 0);
        show.setRate(0, 5);
        Check.same("30: no value", show.price(0), 5);
        show.setValue(0, 0, 1);
        Check.same("30: the least value", show.price(0), 10);
        show.setValue(0, 0, MOST_VALUE);
        Check.same("30: the greatest value", show.price(0), 500000005);
        show.setWind(0, -50, 0);
        Check.same("30: no zone is in danger", show.price(0), 5);
        show.setWind(0, 0, 0);
        show.setRack(0, 7, 7);
        show.setValue(7, 7, 3);
        Check.same("30: the last zone", show.price(0), 20);
        show.setRate(0, 100000);
        Check.same("30: the greatest rate", show.price(0), 400000);
    }

    /** A shell that endangers 49 zones; the first of them have a value together that is asked for. */
    private static MortarShow worth(long value) {
        MortarShow show = show();
        show.setShell(0, 1, 100, 3);
        show.setRack(0, 3, 3);
        show.cue(1, 0, 0);
        long rest = value;
        for (int zone = 0; zone < 49; zone++) {
            int part = (int) Math.min(MOST_VALUE, rest);
            show.setValue(zone % 7, zone / 7, part);
            rest -= part;
        }
        Check.same("30: all is spread out", rest, 0L);
        return show;
    }

    /** "it would be more than 2147483647". */
    private static void priceAtTheLimit() {
        // The value of the zones, the rate, and the price.
        long[][] prices = {{MOST - 2L, 1, MOST - 1}, {MOST - 1L, 1, MOST}, {MOST, 1, -2}, {MOST + 1L, 1, -2},
            {1073741822, 2, MOST - 1}, {1073741823, 2, -2}, {21474, 100000, -2},
            {21473, 100000, 2147400000}};
        for (long[] p : prices) {
            MortarShow show = worth(p[0]);
            show.setRate(0, (int) p[1]);
            Check.same("30: the price of " + p[0] + " at " + p[1], show.price(0), p[2]);
            Check.same("31: the total of " + p[0] + " at " + p[1], show.total(), p[2]);
            Check.same("30: a refused cue is fired all the same", show.becomes(0), 0);
        }
    }

    private static void priceDoesNotWrapAround() {
        // 2 to the 31st, 2 to the 32nd, 3 times 2 to the 31st, and 2 to the 32nd, and 1.
        long[][] prices = {{65535, 32768}, {65535, 65536}, {65535, 98304}, {6700416, 641}, {4294967295L, 1},
            {4294967296L, 1}};
        for (long[] p : prices) {
            MortarShow show = worth(p[0]);
            show.setRate(0, (int) p[1]);
            Check.same("30: the price of " + p[0] + " at " + p[1], show.price(0), -2);
            Check.same("31: the total of " + p[0] + " at " + p[1], show.total(), -2);
        }
    }

    private static void dearestAndCheapest() {
        MortarShow show = worth(4900000000L);
        Check.same("30: all zones at the rate 1", show.price(0), -2);
        show.setRate(0, 100000);
        Check.same("30: all zones at the greatest rate", show.price(0), -2);
        Check.same("31: all zones at the greatest rate", show.total(), -2);
        show.setRate(0, 0);
        Check.same("30: all zones at the rate 0", show.price(0), 0);
        Check.same("31: all zones at the rate 0", show.total(), 0);
    }

    /** "-1 if it is not fired; -2 if the insurer refuses it". */
    private static void notFiredGoesAheadOfRefused() {
        MortarShow show = worth(4900000000L);
        Check.same("30: fired", show.price(0), -2);
        show.setPeople(3, 3, 1);
        Check.same("30: struck", show.price(0), -1);
        show.setPeople(3, 3, 0);
        int early = show.cue(0, 0, 0);
        Check.same("30: too early", show.price(early), -1);
        for (int at = 0; at < 32; at++) {
            show.kill(at / 8, at % 8);
        }
        Check.same("30: dark", show.price(0), -1);
        Check.same("31: none is fired", show.total(), 0);
        show.cut(0);
        Check.refused(Check.INDEX, "30: cut", () -> show.price(0));
        Check.refused(Check.INDEX, "30: not made", () -> show.price(2));
    }

    private static void totalOfNothing() {
        MortarShow show = show();
        Check.same("31: without cues", show.total(), 0);
        show.cue(1, 0, 0);
        Check.same("31: one cue without value", show.total(), 1);
        show.setPeople(0, 0, 1);
        Check.same("31: it is struck", show.total(), 0);
        show.cut(0);
        Check.same("31: none is left", show.total(), 0);
    }

    /** "or the sum would be more than 2147483647", though no cue is refused. */
    private static void totalAtTheLimit() {
        MortarShow show = show();
        show.setValue(0, 0, 89478484);
        show.setRate(0, 24);
        show.cue(1, 0, 0);
        show.cue(2, 0, 1);
        int[][] rates = {{6, MOST - 1}, {7, MOST}, {8, -2}, {9, -2}};
        for (int[] r : rates) {
            show.setRate(1, r[0]);
            Check.same("30: one of them", show.price(0), 2147483640);
            Check.same("30: the other", show.price(1), r[0]);
            Check.same("31: both", show.total(), r[1]);
        }
    }

    private static void totalDoesNotWrapAround() {
        MortarShow show = show();
        show.setValue(0, 0, 1048575);
        show.setRate(0, 1024);
        Check.same("31: without cues", show.total(), 0);
        show.cue(1, 0, 0);
        Check.same("31: 2 to the 30th", show.total(), 1073741824);
        for (int cues = 2; cues <= 32; cues++) {
            show.cue(1, 0, 0);
            Check.same("31: that times " + cues, show.total(), -2);
        }
        Check.same("30: none is refused", show.price(31), 1073741824);
    }

    /** "-2 if one of them is refused". */
    private static void totalWithARefusedCue() {
        MortarShow show = show();
        show.setValue(2, 0, MOST_VALUE);
        show.cue(1, 0, 0);
        show.cue(1, 0, 1);
        show.cue(2, 0, 2);
        show.setRate(1, 21);
        Check.same("31: none is refused", show.total(), 2100000023);
        show.setRate(1, 22);
        Check.same("30: the last is refused", show.price(2), -2);
        Check.same("31: the last is refused", show.total(), -2);
        show.setRate(0, 22);
        show.setRack(0, 2, 0);
        show.setRack(2, 0, 0);
        Check.same("30: the first is refused", show.price(0), -2);
        Check.same("31: the first is refused", show.total(), -2);
        show.cut(0);
        Check.same("31: it is cut", show.total(), 44);
    }

    private static void totalLeavesOutWhatIsNotFired() {
        MortarShow show = show();
        show.setValue(1, 0, MOST_VALUE);
        show.setRate(0, 7);
        show.setRate(1, 100000);
        show.setRate(2, 100000);
        show.cue(1, 0, 0);
        show.cue(2, 0, 1);
        Check.same("31: one is refused", show.total(), -2);
        show.setPeople(1, 0, 1);
        Check.same("31: the refused one is struck", show.total(), 7);
        show.setPeople(1, 0, 0);
        show.cut(1);
        show.cue(0, 0, 1);
        Check.same("31: a dear one is too early", show.total(), 7);
        for (int at = 1; at < 32; at++) {
            show.kill(at / 8, at % 8);
        }
        show.cue(3, 0, 1);
        Check.same("31: a dear one is dark", show.total(), 7);
        show.kill(0, 0);
        Check.same("31: all are dark", show.total(), 0);
    }

    private static void totalOfAllChannels() {
        MortarShow show = show();
        show.setValue(0, 0, 9);
        for (int cue = 0; cue < 40; cue++) {
            show.cue(1, 0, 0);
            Check.same("31: of " + (cue + 1), show.total(), 10 * Math.min(32, cue + 1));
        }
    }
}
