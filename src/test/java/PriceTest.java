/** Promises 29 to 31: prices. */
public final class PriceTest {
    private PriceTest() {
    }

    public static void main(String[] args) {
        setRate();
        price();
        total();
        Check.end("PriceTest");
    }

    private static void setRate() {
        MortarShow show = new MortarShow();
        Check.same("29: setRate(0, 100000)", show.setRate(0, 100000), 1);
        Check.same("29: setRate(9, 0)", show.setRate(9, 0), 1);
        Check.same("29: setRate(0, 7)", show.setRate(0, 7), 100000);
        Check.same("29: setRate(9, 8)", show.setRate(9, 8), 0);
        int[][] bad = {{-1, 0}, {10, 0}, {0, -1}, {0, 100001}};
        for (int[] b : bad) {
            Check.refused(Check.ARGUMENT, "29: setRate", () -> show.setRate(b[0], b[1]));
        }
        Check.same("29: unchanged", show.setRate(0, 1), 7);
    }

    private static void price() {
        MortarShow show = new MortarShow();
        for (int hour = 0; hour < 10; hour++) {
            show.setRate(hour, hour + 2);
        }
        show.setShell(0, 10, 20, 0);
        show.setTempo(1);
        show.cue(100, 0, 0);
        show.cue(100, 0, 1);
        show.cue(0, 0, 2);
        Check.same("30: at the tick 99", show.price(0), 2);
        show.setTempo(100);
        Check.same("30: at the tick 9999 it is the hour 9", show.price(0), 11);
        Check.same("30: too early", show.price(2), -1);
        show.cut(2);
        int[][] hours = {{2, 199, 3}, {3, 299, 4}, {9, 899, 10}, {10, 999, 11}, {11, 1099, 11}};
        for (int[] h : hours) {
            int cue = show.cue(h[0], 0, 0);
            Check.same("30: fires", show.fires(cue), h[1]);
            Check.same("30: price", show.price(cue), h[2]);
        }
        show.setShell(1, 1, 1, 0);
        show.setTempo(51);
        int cue = show.cue(2, 1, 0);
        Check.same("30: fires at 101", show.fires(cue), 101);
        Check.same("30: the hour 1", show.price(cue), 3);
        Check.refused(Check.INDEX, "30: price(-1)", () -> show.price(-1));
        Check.refused(Check.INDEX, "30: price(2)", () -> show.price(2));
        Check.refused(Check.INDEX, "30: price(39)", () -> show.price(39));
        show.setPeople(0, 0, 1);
        Check.same("30: struck", show.price(cue), -1);
        hourBegins();
        priceOfZones();
    }

    private static void hourBegins() {
        MortarShow show = new MortarShow();
        show.setRate(0, 5);
        show.setRate(1, 6);
        show.setRate(9, 7);
        show.setShell(0, 50, 20, 0);
        show.setTempo(21);
        show.cue(5, 0, 0);
        Check.same("30: fires at 100", show.fires(0), 100);
        Check.same("30: the tick 100 is of the hour 1", show.price(0), 6);
        show.setShell(0, 60, 20, 0);
        Check.same("30: the tick 99 is of the hour 0", show.price(0), 5);
        show.setTempo(100);
        show.cue(100, 0, 0);
        Check.same("30: the latest tick", show.fires(1), 9994);
        Check.same("30: it is of the hour 9", show.price(1), 7);
    }

    private static void priceOfZones() {
        MortarShow show = new MortarShow();
        show.setRack(0, 3, 3);
        show.setShell(0, 50, 20, 1);
        show.cue(1, 0, 0);
        for (int zone = 0; zone < 64; zone++) {
            show.setValue(zone % 8, zone / 8, zone + 1);
        }
        Check.same("30: the zones of the danger, and 1", show.price(0), 9 * 28 + 1);
        for (int zone = 0; zone < 64; zone++) {
            show.setValue(zone % 8, zone / 8, 0);
        }
        show.setValue(2, 2, 100000000);
        show.setValue(4, 4, 7374182);
        show.setRate(0, 20);
        Check.same("30: 2147483660 is refused", show.price(0), -2);
        show.setValue(4, 4, 7374181);
        Check.same("30: 2147483640 is not", show.price(0), 2147483640);
        show.setRate(0, 1);
        for (int column = 2; column < 5; column++) {
            for (int line = 2; line < 5; line++) {
                show.setValue(column, line, 100000000);
            }
        }
        Check.same("30: nine full zones", show.price(0), 900000001);
        show.setShell(0, 50, 20, 3);
        for (int zone = 0; zone < 64; zone++) {
            show.setValue(zone % 8, zone / 8, 100000000);
        }
        Check.same("30: the sum alone is more", show.price(0), -2);
        show.setRate(0, 100000);
        Check.same("30: the dearest", show.price(0), -2);
        Check.same("31: the dearest", show.total(), -2);
        show.setRate(0, 0);
        Check.same("30: the rate 0", show.price(0), 0);
        exactLimit();
    }

    private static void exactLimit() {
        MortarShow show = new MortarShow();
        show.setShell(0, 50, 20, 3);
        show.cue(1, 0, 0);
        for (int zone = 0; zone < 15; zone++) {
            show.setValue(zone % 4, zone / 4, 100000000);
        }
        // 2147483647 is a prime: only the rate 1 reaches it.
        show.setRack(0, 3, 3);
        show.setValue(6, 6, 100000000);
        for (int zone = 0; zone < 5; zone++) {
            show.setValue(4 + zone % 3, 4 + zone / 3, 100000000);
        }
        show.setValue(0, 5, 47483646);
        Check.same("30: 2147483647 itself", show.price(0), 2147483647);
        Check.same("31: 2147483647 itself", show.total(), 2147483647);
        show.setValue(0, 5, 47483647);
        Check.same("30: one more", show.price(0), -2);
        Check.same("31: one more", show.total(), -2);
        show.setValue(0, 5, 47483646);
        show.setRack(1, 7, 7);
        show.setShell(1, 50, 20, 0);
        show.cue(2, 1, 1);
        Check.same("31: the sum is one more", show.total(), -2);
        Check.same("31: none is refused", show.price(0), 2147483647);
    }

    private static void total() {
        MortarShow show = new MortarShow();
        Check.same("31: without cues", show.total(), 0);
        show.setValue(0, 0, 10);
        show.cue(1, 0, 0);
        Check.same("31: one cue", show.total(), 11);
        show.cue(2, 0, 0);
        show.cue(0, 0, 0);
        Check.same("31: a cue that is too early does not count", show.total(), 22);
        show.setRack(1, 7, 7);
        show.setPeople(7, 7, 1);
        show.cue(2, 0, 1);
        Check.same("31: a struck cue does not count", show.total(), 22);
        show.setGap(20);
        for (int cue = 4; cue < 12; cue++) {
            show.cue(1, 0, 0);
        }
        show.cut(1);
        Check.same("31: dark cues do not count", show.total(), 44);
        show.setRate(0, 0);
        Check.same("31: the rate 0", show.total(), 0);
        show.setRate(0, 100000);
        show.setValue(0, 0, 100000000);
        Check.same("31: refused", show.total(), -2);
    }
}
