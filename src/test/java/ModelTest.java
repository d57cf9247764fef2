import java.util.Random;

/** Long runs of calls, the same ones each time, on MortarShow and on PlainShow: both answer the same. */
public final class ModelTest {
    private static final int RUNS = 60;
    private static final int CALLS = 512;
    private static final int CALL_KINDS = 30;

    private final Random random;
    private final int mood;
    private final MortarShow show = new MortarShow();
    private final PlainShow plain = new PlainShow();

    private ModelTest(int run) {
        random = new Random(run);
        mood = run % 4;
    }

    public static void main(String[] args) {
        for (int run = 0; run < RUNS && Check.clean(); run++) {
            new ModelTest(run).run(run);
        }
        Check.end("ModelTest");
    }

    private void run(int run) {
        for (int call = 0; call < CALLS && Check.clean(); call++) {
            int kind = random.nextInt(CALL_KINDS + 4);
            // Cues first, and a few more of them than of the other calls.
            if (kind >= CALL_KINDS || call < 25 && mood > 0) {
                kind = 8;
            }
            compare("run " + run + ", call " + call, kind);
        }
    }

    /** Mostly a number of the range, at times its ends, seldom one outside. */
    private int of(int least, int most) {
        switch (random.nextInt(24)) {
            case 0:
                return random.nextInt(12) == 0 ? (random.nextBoolean() ? least - 1 : most + 1) : most;
            case 1:
                return random.nextInt(40) == 0 ? (random.nextBoolean() ? Integer.MIN_VALUE : Integer.MAX_VALUE) : least;
            case 2:
                return least;
            case 3:
                return most;
            default:
                return least + random.nextInt(most - least + 1);
        }
    }

    private int cueNumber() {
        return of(0, random.nextInt(10) == 0 ? 40 : 30);
    }

    /** Winds and shells that are gentle in most runs keep the shells on the ground. */
    private int gentle(int least, int most, int mild) {
        return mood == 3 ? of(least, most) : Math.min(most, of(Math.max(least, -mild), mild));
    }

    private void compare(String where, int kind) {
        int wide = mood == 3 ? 100 : 6;
        switch (kind) {
            case 0 -> {
                int a = of(0, 5), b = of(0, 7), c = of(0, 7);
                same(where + " setRack " + a + " " + b + " " + c,
                        () -> show.setRack(a, b, c), () -> plain.setRack(a, b, c));
            }
            case 1 -> {
                int a = of(0, 3), b = gentle(1, 200, 90), c = of(1, 100), d = of(0, 3);
                same(where + " setShell " + a + " " + b + " " + c + " " + d,
                        () -> show.setShell(a, b, c, d), () -> plain.setShell(a, b, c, d));
            }
            case 2 -> {
                int a = of(0, 3), b = gentle(-100, 100, wide), c = gentle(-100, 100, wide);
                same(where + " setWind " + a + " " + b + " " + c,
                        () -> show.setWind(a, b, c), () -> plain.setWind(a, b, c));
            }
            case 3 -> {
                int a = of(0, 7), b = of(0, 7), c = random.nextInt(3) > 0 ? 0 : of(0, 5);
                same(where + " setPeople " + a + " " + b + " " + c,
                        () -> show.setPeople(a, b, c), () -> plain.setPeople(a, b, c));
            }
            case 4 -> {
                int a = of(0, 7), b = of(0, 7), c = random.nextInt(3) > 0 ? of(0, 1000) : of(0, 100000000);
                same(where + " setValue " + a + " " + b + " " + c,
                        () -> show.setValue(a, b, c), () -> plain.setValue(a, b, c));
            }
            case 5 -> same(where + " peopled", show::peopled, plain::peopled);
            case 6 -> {
                int a = of(0, 3);
                same(where + " flight " + a, () -> show.flight(a), () -> plain.flight(a));
            }
            case 7 -> {
                int a = of(0, 3), b = of(0, 3);
                same(where + " inLayer " + a + " " + b, () -> show.inLayer(a, b), () -> plain.inLayer(a, b));
            }
            case 8 -> {
                int a = of(0, mood == 1 ? 9 : 100), b = of(0, 3), c = of(0, 5);
                same(where + " cue " + a + " " + b + " " + c, () -> show.cue(a, b, c), () -> plain.cue(a, b, c));
            }
            case 9 -> {
                int a = random.nextInt(3) > 0 ? 41 : cueNumber();
                same(where + " cut " + a, () -> show.cut(a), () -> plain.cut(a));
            }
            case 10 -> {
                int a = mood == 3 ? of(1, 100) : of(1, 3);
                same(where + " setTempo " + a, () -> show.setTempo(a), () -> plain.setTempo(a));
            }
            default -> compareMore(where, kind);
        }
    }

    private void compareMore(String where, int kind) {
        int cue = cueNumber();
        switch (kind) {
            case 11 -> same(where + " becomes " + cue, () -> show.becomes(cue), () -> plain.becomes(cue));
            case 12 -> same(where + " bursts " + cue, () -> show.bursts(cue), () -> plain.bursts(cue));
            case 13 -> same(where + " fires " + cue, () -> show.fires(cue), () -> plain.fires(cue));
            case 14 -> {
                int a = of(0, 3);
                same(where + " falls " + cue + " " + a, () -> show.falls(cue, a), () -> plain.falls(cue, a));
            }
            case 15 -> {
                int a = of(0, 3);
                same(where + " fallsBySteps " + cue + " " + a,
                        () -> show.fallsBySteps(cue, a), () -> plain.falls(cue, a));
            }
            case 16 -> {
                int a = of(0, 2);
                same(where + " burstAt " + cue + " " + a, () -> show.burstAt(cue, a), () -> plain.burstAt(cue, a));
            }
            case 17 -> same(where + " danger " + cue, () -> show.danger(cue), () -> plain.danger(cue));
            case 18 -> same(where + " cues", show::cues, plain::cues);
            case 19 -> same(where + " fired", show::fired, plain::fired);
            case 20 -> {
                int a = of(0, random.nextBoolean() ? 3 : 30);
                same(where + " firing " + a, () -> show.firing(a), () -> plain.firing(a));
            }
            case 21 -> same(where + " closed", show::closed, plain::closed);
            case 22 -> {
                int a = of(0, 3), b = of(0, 7);
                same(where + " kill " + a + " " + b,
                        () -> show.kill(a, b) ? 1 : 0, () -> plain.kill(a, b) ? 1 : 0);
            }
            case 23 -> {
                int a = random.nextBoolean() ? of(0, 3) : of(0, 20);
                same(where + " setGap " + a, () -> show.setGap(a), () -> plain.setGap(a));
            }
            case 24 -> same(where + " channelOf " + cue, () -> show.channelOf(cue), () -> plain.channelOf(cue));
            case 25 -> {
                int a = of(0, 3), b = of(0, 7);
                same(where + " cueOn " + a + " " + b, () -> show.cueOn(a, b), () -> plain.cueOn(a, b));
            }
            case 26 -> same(where + " spares", show::spares, plain::spares);
            case 27 -> {
                int a = of(0, 9), b = random.nextInt(3) > 0 ? of(0, 20) : of(0, 100000);
                same(where + " setRate " + a + " " + b, () -> show.setRate(a, b), () -> plain.setRate(a, b));
            }
            case 28 -> same(where + " price " + cue, () -> show.price(cue), () -> plain.price(cue));
            default -> same(where + " total", show::total, plain::total);
        }
    }

    private static void same(String call, Check.Call got, Check.Call due) {
        Check.same(call, Check.told(got), Check.told(due));
    }
}
