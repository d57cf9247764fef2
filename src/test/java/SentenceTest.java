/**
 * Sentences that say what is the same for all objects, racks, kinds, cues, channels and boxes, or what holds at
 * once behind a change, one a method.
 */
public final class SentenceTest {
    private static final int STRUCK_CUE = 0;
    private static final int EARLY_CUE = 1;
    private static final int FIRED_CUE = 2;
    private static final int DARK_CUE = 3;
    private static final int LATE_STRUCK_CUE = 4;
    private static final int[] FATES = {1, 2, 0, 3, 1};

    private SentenceTest() {
    }

    public static void main(String[] args) {
        eachObjectBeginsForItself();
        eachRackIsInAZoneOfItsOwn();
        eachKindHasItsOwnShape();
        aShapeIsSetAnewEachTime();
        eachLayerHasAWindOfItsOwn();
        windIsSetAnewEachTime();
        changesOfTheGroundHoldAtOnce();
        aCueCountsAtOnce();
        aCutCueIsGoneAtOnce();
        theCuesHaveAllFates();
        burstsOfCuesThatAreNotFired();
        firesOfCuesThatAreNotFired();
        fallsOfCuesThatAreNotFired();
        fallsByStepsOfCuesThatAreNotFired();
        burstAtOfCuesThatAreNotFired();
        dangerOfCuesThatAreNotFired();
        cuesOfAllFatesAreThere();
        theOtherAnswersOfAllFates();
        stepsBeginAnewAtEachAsk();
        darkCuesDoNotCloseUp();
        theTempoIsOfAllCues();
        refusedCuesAreFired();
        killIsOfThatChannelAlone();
        theGapIsOfEachBox();
        Check.end("SentenceTest");
    }

    /** "Begins without cues, wind and people", whatever other objects have. */
    private static void eachObjectBeginsForItself() {
        MortarShow a = new MortarShow();
        MortarShow b = new MortarShow();
        Check.same("1: a's rack", a.setRack(0, 1, 2), 0);
        Check.same("1: b's rack", b.setRack(0, 5, 6), 0);
        a.setShell(0, 100, 50, 1);
        b.setShell(0, 10, 5, 0);
        Check.same("1: a's tempo", a.setTempo(30), 20);
        Check.same("1: b's tempo", b.setTempo(10), 20);
        Check.same("1: a's gap", a.setGap(1), 2);
        Check.same("1: b's gap", b.setGap(5), 2);
        Check.same("1: a's rate", a.setRate(0, 7), 1);
        Check.same("1: b's rate", b.setRate(0, 9), 1);
        Check.same("1: a's value", a.setValue(5, 6, 100), 0);
        Check.same("1: b's value", b.setValue(5, 6, 10), 0);
        Check.same("1: a's channel", a.kill(0, 0), true);
        Check.same("1: b's channel", b.kill(0, 0), true);
        a.setWind(0, 1, 0);
        b.setWind(0, 0, 1);
        Check.same("1: a's first cue", a.cue(5, 0, 0), 0);
        Check.same("1: b's first cue", b.cue(7, 0, 0), 0);
        Check.same("1: a's second cue", a.cue(6, 0, 0), 1);
        Check.same("1: a's people", a.setPeople(0, 1, 4), 0);
        Check.same("1: b's people", b.setPeople(0, 1, 0), 0);
        for (int time = 0; time < 2; time++) {
            bothAnswerForThemselves(a, b);
        }
        bothFireTheirOwn(a, b);
    }

    private static void bothAnswerForThemselves(MortarShow a, MortarShow b) {
        Check.same("1: a's flight", a.flight(0), 21);
        Check.same("1: b's flight", b.flight(0), 3);
        Check.same("1: a's fall", a.fallsBySteps(0, 0), 157);
        Check.same("1: b's fall", b.fallsBySteps(0, 0), 550);
        Check.same("1: a's closed()", a.closed(), 2);
        Check.same("1: b's closed()", b.closed(), 0);
        Check.same("1: a's bursts", a.bursts(1), 150);
        Check.same("1: b's bursts", b.bursts(0), 70);
        Check.same("1: a's fired()", a.fired(), 0);
        Check.same("1: b's fired()", b.fired(), 1);
        Check.same("1: a's channel of the cue 0", a.channelOf(0), -1);
        Check.same("1: b's channel of the cue 0", b.channelOf(0), 1);
        Check.same("1: a's cueOn", a.cueOn(0, 1), -1);
        Check.same("1: b's cueOn", b.cueOn(0, 1), 0);
        Check.same("1: a's price", a.price(0), -1);
        Check.same("1: b's price", b.price(0), 99);
        Check.same("1: a's cues()", a.cues(), 2);
        Check.same("1: b's cues()", b.cues(), 1);
    }

    private static void bothFireTheirOwn(MortarShow a, MortarShow b) {
        a.setPeople(0, 1, 0);
        a.cue(7, 0, 0);
        a.cut(0);
        for (int time = 0; time < 2; time++) {
            Check.same("1: a's first fired cue", a.firing(0), 1);
            Check.same("1: b's first fired cue", b.firing(0), 0);
            Check.same("1: a's second fired cue", a.firing(1), 2);
            Check.refused(Check.INDEX, "1: b's second fired cue", () -> b.firing(1));
            Check.same("1: a's fired cues", a.fired(), 2);
            Check.same("1: b's fired cues", b.fired(), 1);
        }
    }

    /** "Puts a rack into a zone": that rack, and no other. */
    private static void eachRackIsInAZoneOfItsOwn() {
        MortarShow show = new MortarShow();
        for (int rack = 0; rack < 6; rack++) {
            Check.same("2: in the first zone at first", show.setRack(rack, rack + 1, 6 - rack), 0);
            show.cue(1, 0, rack);
        }
        for (int rack = 0; rack < 6; rack++) {
            Check.same("2: the column of the rack " + rack, show.falls(rack, 2), rack + 1);
            Check.same("2: the line of the rack " + rack, show.falls(rack, 3), 6 - rack);
            Check.same("2: the zone of the rack " + rack, show.setRack(rack, 7, 7), 8 * (6 - rack) + rack + 1);
        }
    }

    /** "Sets a kind of shells": that kind, and no other. */
    private static void eachKindHasItsOwnShape() {
        MortarShow show = new MortarShow();
        show.setRack(0, 4, 4);
        int[] speeds = {10, 30, 40, 20};
        int[] heights = {10, 60, 100, 30};
        for (int kind = 0; kind < 4; kind++) {
            // Down from their heights by falls of 1, 2, 3, 4.
            show.setShell(kind, speeds[kind], kind + 1, 3 - kind);
            show.cue(2, kind, 0);
        }
        int[] flights = {1 + 10, 3 + 30, 4 + 34, 2 + 8};
        int[] zones = {49, 25, 9, 1};
        for (int kind = 0; kind < 4; kind++) {
            Check.same("3: height of the kind " + kind, show.burstAt(kind, 2), heights[kind]);
            Check.same("3: lift of the kind " + kind, show.fires(kind), 40 - speeds[kind] / 10);
            Check.same("3: flight of the kind " + kind, show.flight(kind), flights[kind]);
            Check.same("3: radius of the kind " + kind, Long.bitCount(show.danger(kind)), zones[kind]);
        }
    }

    private static void aShapeIsSetAnewEachTime() {
        MortarShow show = new MortarShow();
        show.setRack(0, 4, 4);
        show.cue(2, 1, 0);
        // Each of speed, fall and radius goes up and down again; up by 100, 2100, 100 and 10.
        int[][] shapes = {{40, 3, 3, 4, 38, 49}, {200, 100, 0, 20, 41, 1}, {40, 3, 2, 4, 38, 25}, {10, 2, 1, 1, 6, 9}};
        for (int[] s : shapes) {
            Check.same("3: its lift", show.setShell(1, s[0], s[1], s[2]), s[3]);
            Check.same("3: it fires", show.fires(0), 40 - s[3]);
            Check.same("3: its flight", show.flight(1), s[4]);
            Check.same("3: its zones", Long.bitCount(show.danger(0)), s[5]);
            Check.same("3: it is struck by its radius", struckFromAColumn(show), (s[2] >= 2) ? 1 : 0);
        }
    }

    /** What becomes of the cue 0, when there are people two columns from it. */
    private static int struckFromAColumn(MortarShow show) {
        show.setPeople(2, 4, 1);
        int fate = show.becomes(0);
        show.setPeople(2, 4, 0);
        return fate;
    }

    /** "Sets the wind of a layer": of that layer, in x and in y, and no other. */
    private static void eachLayerHasAWindOfItsOwn() {
        MortarShow show = new MortarShow();
        show.setShell(0, 200, 1, 0);
        show.cue(1, 0, 0);
        int[] ticks = {251, 251, 252, 1366};
        int x = 50;
        int y = 50;
        for (int layer = 3; layer >= 0; layer--) {
            show.setWind(layer, layer + 1, -layer);
            x += ticks[layer] * (layer + 1);
            y -= ticks[layer] * layer;
            Check.same("4: x with the wind of the layer " + layer, show.falls(0, 0), x);
            Check.same("4: y with the wind of the layer " + layer, show.falls(0, 1), y);
            Check.same("4: x, step by step", show.fallsBySteps(0, 0), x);
            Check.same("4: y, step by step", show.fallsBySteps(0, 1), y);
        }
    }

    private static void windIsSetAnewEachTime() {
        MortarShow show = new MortarShow();
        show.cue(1, 0, 0);
        for (int wind : new int[] {5, 100, -3, 0, -100, 2}) {
            show.setWind(0, wind, -wind);
            Check.same("4: x", show.falls(0, 0), 50 + 13 * wind);
            Check.same("4: y", show.falls(0, 1), 50 - 13 * wind);
        }
    }

    /** A cue that was asked for is told anew, when a rack, a kind, a wind or people change. */
    private static void changesOfTheGroundHoldAtOnce() {
        MortarShow show = new MortarShow();
        show.setPeople(6, 6, 1);
        show.cue(2, 0, 0);
        Check.same("2: fired", show.becomes(0), 0);
        show.setRack(0, 6, 6);
        Check.same("2: its rack is among people", show.becomes(0), 1);
        show.setRack(0, 4, 6);
        Check.same("2: its rack is beside them", show.becomes(0), 0);
        show.setShell(0, 50, 20, 2);
        Check.same("3: its radius is wider", show.becomes(0), 1);
        show.setShell(0, 50, 20, 1);
        Check.same("3: its radius is less", show.becomes(0), 0);
        show.setWind(0, 4, 0);
        Check.same("4: the wind drives it there", show.becomes(0), 1);
        Check.same("4: and closes up", show.closed(), 1);
        show.setWind(0, 3, 0);
        Check.same("4: not quite there", show.becomes(0), 0);
        show.setPeople(3, 5, 1);
        Check.same("5: people come", show.becomes(0), 1);
        show.setPeople(3, 5, 0);
        Check.same("5: people go", show.becomes(0), 0);
        Check.same("5: it is fired", show.fired(), 1);
    }

    /** "Makes a cue." */
    private static void aCueCountsAtOnce() {
        MortarShow show = new MortarShow();
        show.setRack(3, 5, 5);
        show.setPeople(5, 5, 1);
        for (int made = 1; made < 4; made++) {
            show.cue(made, 0, 0);
            Check.same("10: fired()", show.fired(), made);
            Check.same("10: it is the last", show.firing(made - 1), made - 1);
            Check.same("10: total()", show.total(), made);
        }
        show.setShell(2, 30, 20, 0);
        Check.same("10: of a kind, from a rack, on a beat", show.cue(0, 2, 3), 3);
        Check.same("10: its beat closes up", show.closed(), 1);
        Check.same("10: the others burst earlier", show.bursts(1), 20);
        Check.same("10: its beat", show.bursts(3), 0);
        Check.same("10: its kind", show.fires(3), -3);
        Check.same("10: its rack", show.falls(3, 2), 5);
    }

    /** "Cuts a cue." */
    private static void aCutCueIsGoneAtOnce() {
        MortarShow show = new MortarShow();
        show.setRack(1, 5, 5);
        show.setPeople(5, 5, 1);
        show.cue(2, 0, 1);
        show.cue(4, 0, 0);
        show.cue(4, 0, 0);
        Check.same("11: two are fired", show.fired(), 2);
        Check.same("11: the second's channel", show.channelOf(2), 8);
        Check.same("11: cut(1)", show.cut(1), 2);
        Check.same("11: one is fired", show.fired(), 1);
        Check.same("11: it is the first", show.firing(0), 2);
        Check.same("11: it has the channel", show.channelOf(2), 0);
        Check.same("11: the other channel", show.cueOn(1, 0), -1);
        Check.same("11: the total", show.total(), 1);
        Check.same("11: it bursts earlier by the struck one", show.bursts(2), 60);
        Check.same("11: cut(0)", show.cut(0), 1);
        Check.same("11: nothing closes up", show.closed(), 0);
        Check.same("11: it bursts on its beat", show.bursts(2), 80);
        Check.same("11: cut(2)", show.cut(2), 0);
        Check.same("11: none is fired", show.fired(), 0);
        Check.same("11: nothing is to be paid", show.total(), 0);
    }

    /** Five cues of the lift 2 and the flight 5; the channel 0 of the box 0 alone is sound. */
    static MortarShow allFates() {
        MortarShow show = new MortarShow();
        show.setShell(0, 20, 10, 1);
        show.setTempo(10);
        show.setWind(0, 3, -2);
        show.setRack(0, 3, 4);
        show.setRack(1, 6, 1);
        show.setRack(2, 0, 7);
        show.setPeople(7, 0, 1);
        for (int at = 1; at < 32; at++) {
            show.kill(at / 8, at % 8);
        }
        int[][] cues = {{3, 1}, {0, 2}, {5, 0}, {5, 2}, {9, 1}};
        for (int[] c : cues) {
            show.cue(c[0], 0, c[1]);
        }
        return show;
    }

    private static void theCuesHaveAllFates() {
        MortarShow show = allFates();
        for (int cue = 0; cue < FATES.length; cue++) {
            Check.same("13: becomes(" + cue + ")", show.becomes(cue), FATES[cue]);
        }
    }

    /** "the tick at which a cue bursts, or would, if it was fired". */
    private static void burstsOfCuesThatAreNotFired() {
        MortarShow show = allFates();
        Check.same("14: struck", show.bursts(STRUCK_CUE), 30);
        Check.same("14: too early", show.bursts(EARLY_CUE), 0);
        Check.same("14: fired", show.bursts(FIRED_CUE), 40);
        Check.same("14: dark", show.bursts(DARK_CUE), 40);
        Check.same("14: struck behind a struck one", show.bursts(LATE_STRUCK_CUE), 80);
    }

    /** "the tick at which a cue is fired, or would have to be". */
    private static void firesOfCuesThatAreNotFired() {
        MortarShow show = allFates();
        Check.same("15: struck", show.fires(STRUCK_CUE), 28);
        Check.same("15: too early", show.fires(EARLY_CUE), -2);
        Check.same("15: fired", show.fires(FIRED_CUE), 38);
        Check.same("15: dark", show.fires(DARK_CUE), 38);
        Check.same("15: struck behind a struck one", show.fires(LATE_STRUCK_CUE), 78);
    }

    private static final int[][] FALLS = {{665, 140, 6, 1}, {65, 740, 0, 7}, {365, 440, 3, 4}, {65, 740, 0, 7},
        {665, 140, 6, 1}};

    /** "where the shell of a cue falls", be it fired or not. */
    private static void fallsOfCuesThatAreNotFired() {
        MortarShow show = allFates();
        for (int cue = 0; cue < FATES.length; cue++) {
            for (int what = 0; what < 4; what++) {
                Check.same("16: falls(" + cue + ", " + what + ")", show.falls(cue, what), FALLS[cue][what]);
            }
        }
    }

    /** "the same step by step". */
    private static void fallsByStepsOfCuesThatAreNotFired() {
        MortarShow show = allFates();
        for (int cue = 0; cue < FATES.length; cue++) {
            for (int what = 0; what < 4; what++) {
                Check.same("17: fallsBySteps(" + cue + ", " + what + ")",
                        show.fallsBySteps(cue, what), FALLS[cue][what]);
            }
        }
    }

    private static void burstAtOfCuesThatAreNotFired() {
        MortarShow show = allFates();
        for (int cue = 0; cue < FATES.length; cue++) {
            // Driven for two of the five ticks.
            Check.same("18: x of the cue " + cue, show.burstAt(cue, 0), FALLS[cue][0] - 9);
            Check.same("18: y of the cue " + cue, show.burstAt(cue, 1), FALLS[cue][1] + 6);
            Check.same("18: height of the cue " + cue, show.burstAt(cue, 2), 30);
        }
    }

    /** "the danger of a cue as a set of zones", be it fired or not. */
    private static void dangerOfCuesThatAreNotFired() {
        MortarShow show = allFates();
        long[] due = {0xE0E0E0L, 0x0303000000000000L, 0x1C1C1C000000L, 0x0303000000000000L, 0xE0E0E0L};
        for (int cue = 0; cue < FATES.length; cue++) {
            Check.same("19: danger(" + cue + ")", show.danger(cue), due[cue]);
        }
    }

    /** "how many cues are there": they "are there until they are cut". */
    private static void cuesOfAllFatesAreThere() {
        MortarShow show = allFates();
        Check.same("20: cues()", show.cues(), 5);
        Check.same("21: but fired", show.fired(), 1);
        Check.same("20: cues() again", show.cues(), 5);
        int[] left = {4, 3, 2, 1, 0};
        for (int cue = 0; cue < FATES.length; cue++) {
            Check.same("20: one is cut", show.cut(cue), left[cue]);
            Check.same("20: the others are there", show.cues(), left[cue]);
        }
    }

    private static void theOtherAnswersOfAllFates() {
        MortarShow show = allFates();
        Check.same("22: firing(0)", show.firing(0), FIRED_CUE);
        Check.refused(Check.INDEX, "22: firing(1)", () -> show.firing(1));
        Check.same("23: both struck beats", show.closed(), 2);
        int[] channels = {-1, -1, 0, -1, -1};
        int[] prices = {-1, -1, 1, -1, -1};
        for (int cue = 0; cue < FATES.length; cue++) {
            Check.same("26: channelOf(" + cue + ")", show.channelOf(cue), channels[cue]);
            Check.same("30: price(" + cue + ")", show.price(cue), prices[cue]);
        }
        Check.same("27: cueOn(0, 0)", show.cueOn(0, 0), FIRED_CUE);
        Check.same("28: spares()", show.spares(), 0);
        Check.same("31: total()", show.total(), 1);
    }

    /** "Returns the same step by step", "where the shell of a cue bursts, step by step": of whatever was asked ahead. */
    private static void stepsBeginAnewAtEachAsk() {
        MortarShow show = allFates();
        for (int time = 0; time < 2; time++) {
            Check.same("18: the burst of the cue 0", show.burstAt(0, 0), 656);
            Check.same("17: the fall of the cue 2", show.fallsBySteps(2, 0), 365);
            Check.same("17: and again", show.fallsBySteps(2, 0), 365);
            Check.same("18: its burst", show.burstAt(2, 0), 356);
            Check.same("18: and again", show.burstAt(2, 0), 356);
            Check.same("17: the fall of the cue 1", show.fallsBySteps(1, 1), 740);
            Check.same("18: the burst of the cue 4", show.burstAt(4, 1), 146);
            Check.same("17: the fall of the cue 0", show.fallsBySteps(0, 1), 140);
        }
        show.burstAt(0, 0);
        show.setWind(0, 0, 0);
        Check.same("17: in another wind", show.fallsBySteps(0, 0), 650);
        show.setShell(0, 200, 1, 0);
        Check.same("18: of another shape", show.burstAt(0, 2), 2100);
    }

    /** "cues all of which are struck": too early or dark ones do not close up. */
    private static void darkCuesDoNotCloseUp() {
        MortarShow show = new MortarShow();
        for (int at = 0; at < 32; at++) {
            show.kill(at / 8, at % 8);
        }
        show.cue(0, 0, 0);
        show.cue(3, 0, 0);
        show.cue(5, 0, 0);
        Check.same("13: too early", show.becomes(0), 2);
        Check.same("13: dark", show.becomes(1), 3);
        Check.same("23: closed()", show.closed(), 0);
        Check.same("14: the last bursts on its beat", show.bursts(2), 100);
        show.setTempo(20);
        Check.same("23: closed() told anew", show.closed(), 0);
        Check.same("14: still on its beat", show.bursts(2), 100);
    }

    /** "It is to burst at that beat times the tempo": each cue, made ahead of the change or behind it. */
    private static void theTempoIsOfAllCues() {
        MortarShow show = new MortarShow();
        for (int cue = 0; cue < 6; cue++) {
            show.cue(cue + 1, 0, 0);
        }
        for (int tempo : new int[] {7, 100, 1, 13}) {
            show.setTempo(tempo);
            for (int cue = 0; cue < 6; cue++) {
                Check.same("12: the cue " + cue + " at the tempo " + tempo, show.bursts(cue), (cue + 1) * tempo);
            }
        }
        show.cue(9, 0, 0);
        Check.same("12: a cue made then", show.bursts(6), 117);
    }

    /** "A cue is fired, if it is neither struck, nor too early, nor dark", whatever the insurer says. */
    private static void refusedCuesAreFired() {
        MortarShow show = new MortarShow();
        show.setValue(0, 0, 100000000);
        show.setRate(0, 100000);
        show.cue(1, 0, 0);
        show.cue(2, 0, 0);
        Check.same("30: it is refused", show.price(0), -2);
        Check.same("13: it is fired", show.becomes(0), 0);
        Check.same("21: both are fired", show.fired(), 2);
        Check.same("22: the first", show.firing(0), 0);
        Check.same("22: the second", show.firing(1), 1);
        Check.same("26: its channel", show.channelOf(0), 0);
        Check.same("27: the cue of the next channel", show.cueOn(0, 1), 1);
    }

    /** "Lets a channel be dead, or sound again": that channel of that box, and no other. */
    private static void killIsOfThatChannelAlone() {
        MortarShow show = new MortarShow();
        show.setGap(0);
        for (int cue = 0; cue < 32; cue++) {
            show.cue(1, 0, 0);
        }
        for (int at = 0; at < 32; at++) {
            Check.same("24: dead", show.kill(at / 8, at % 8), true);
            Check.same("24: the killed channel has no cue", show.cueOn(at / 8, at % 8), -1);
            Check.same("24: all the others have one", show.fired(), 31);
            Check.same("24: the spares that have one", show.spares(), at % 8 < 6 ? 8 : 7);
            Check.same("24: sound again", show.kill(at / 8, at % 8), false);
            Check.same("24: it has a cue again", show.cueOn(at / 8, at % 8) >= 0, true);
            Check.same("24: and so have the others", show.fired(), 32);
        }
    }

    /** "its box fires no other cue that was given a channel less than the gap of ticks": of each box. */
    private static void theGapIsOfEachBox() {
        for (int box = 0; box < 4; box++) {
            MortarShow show = new MortarShow();
            show.setTempo(1);
            for (int at = 0; at < 32; at++) {
                if (at / 8 != box) {
                    show.kill(at / 8, at % 8);
                }
            }
            for (int beat = 10; beat < 20; beat++) {
                show.cue(beat, 0, 0);
            }
            for (int gap : new int[] {3, 1, 9, 2, 4}) {
                show.setGap(gap);
                for (int cue = 0; cue < 10; cue++) {
                    // Of a box of six channels and two spares, which follow them without a break.
                    int due = cue % gap == 0 && cue / gap < 8 ? 8 * box + cue / gap : -1;
                    Check.same("25: the box " + box + ", the gap " + gap + ", the cue " + cue,
                            show.channelOf(cue), due);
                }
            }
        }
    }
}
