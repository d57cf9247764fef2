/** Edges of "Boxes" and of the promises 24 to 28, a sentence a method. */
public final class BoxEdgeTest {
    private BoxEdgeTest() {
    }

    public static void main(String[] args) {
        killRanges();
        killTellsWhetherItIsDead();
        noChannelIsSound();
        oneChannelIsSound();
        gapRange();
        gapOfNothing();
        lessThanTheGap();
        gapWithinASpare();
        darkCuesKeepNoBoxWaiting();
        channelsFromTheFirstToTheLast();
        spareOnlyIfNoBoxHasAnother();
        lowestBoxThatHasOne();
        noChannelForWhatIsNotFired();
        channelsByTicksThenNumbers();
        cueOnRanges();
        cueOnFromNoneToAll();
        sparesFromNoneToAll();
        Check.end("BoxEdgeTest");
    }

    private static MortarShow showOf(int cues, int gap) {
        MortarShow show = new MortarShow();
        show.setGap(gap);
        for (int cue = 0; cue < cues; cue++) {
            show.cue(10, 0, 0);
        }
        return show;
    }

    /** A cue a tick from the tick 0 on. */
    private static MortarShow cueATick(int cues, int gap) {
        MortarShow show = new MortarShow();
        show.setTempo(1);
        show.setGap(gap);
        for (int cue = 0; cue < cues; cue++) {
            show.cue(5 + cue, 0, 0);
        }
        return show;
    }

    private static void killAll(MortarShow show) {
        for (int at = 0; at < 32; at++) {
            show.kill(at / 8, at % 8);
        }
    }

    private static void channels(String call, MortarShow show, int... due) {
        for (int cue = 0; cue < due.length; cue++) {
            Check.same(call + ", cue " + cue, show.channelOf(cue), due[cue]);
        }
    }

    private static void killRanges() {
        MortarShow show = new MortarShow();
        Check.range(Check.ARGUMENT, "24: kill, box", 0, 3, box -> show.kill(box, 1) ? 1 : 0);
        Check.range(Check.ARGUMENT, "24: kill, channel", 0, 7, channel -> show.kill(1, channel) ? 1 : 0);
    }

    /** "Lets a channel be dead, or sound again", "Returns whether it is dead then." */
    private static void killTellsWhetherItIsDead() {
        MortarShow show = new MortarShow();
        for (int time = 0; time < 3; time++) {
            for (int at = 0; at < 32; at++) {
                Check.same("24: the channel " + at, show.kill(at / 8, at % 8), time % 2 == 0);
            }
        }
        Check.refused(Check.ARGUMENT, "24: kill(4, 0)", () -> show.kill(4, 0) ? 1 : 0);
        Check.refused(Check.ARGUMENT, "24: kill(0, 8)", () -> show.kill(0, 8) ? 1 : 0);
        Check.same("24: the channel 0 of the box 1 is not touched", show.kill(1, 0), false);
    }

    /** "if no box has one, it is dark". */
    private static void noChannelIsSound() {
        MortarShow show = showOf(2, 0);
        killAll(show);
        Check.same("24: dark", show.becomes(0), 3);
        Check.same("26: no channel", show.channelOf(0), -1);
        Check.same("28: no spare", show.spares(), 0);
        killAll(show);
        channels("24: all are sound again", show, 0, 1);
    }

    private static void oneChannelIsSound() {
        for (int at = 0; at < 32; at++) {
            MortarShow show = showOf(2, 0);
            killAll(show);
            show.kill(at / 8, at % 8);
            channels("26: the channel " + at + " alone", show, at, -1);
            Check.same("27: its cue", show.cueOn(at / 8, at % 8), 0);
            Check.same("28: spares", show.spares(), at % 8 == 6 || at % 8 == 7 ? 1 : 0);
        }
    }

    private static void gapRange() {
        MortarShow show = new MortarShow();
        Check.same("25: the first", show.setGap(20), 2);
        Check.same("25: the greatest", show.setGap(0), 20);
        Check.same("25: the least", show.setGap(7), 0);
        Check.range(Check.ARGUMENT, "25: setGap", 0, 20, gap -> show.setGap(gap));
        Check.same("25: the last that was taken", show.setGap(2), 20);
    }

    private static void gapOfNothing() {
        channels("25: of the same tick, gap 0", showOf(3, 0), 0, 1, 2);
        channels("25: of the same tick, gap 1", showOf(5, 1), 0, 8, 16, 24, -1);
    }

    /** "less than the gap of ticks, 2 at first, ahead of it or behind it". */
    private static void lessThanTheGap() {
        channels("25: a tick on, gap 1", cueATick(2, 1), 0, 1);
        MortarShow show = new MortarShow();
        show.setTempo(1);
        show.cue(5, 0, 0);
        show.cue(6, 0, 0);
        show.cue(7, 0, 0);
        channels("25: the first gap", show, 0, 8, 1);
        for (int gap = 1; gap <= 20; gap++) {
            MortarShow near = new MortarShow();
            near.setTempo(1);
            near.setGap(gap);
            near.cue(50, 0, 0);
            near.cue(50 + gap, 0, 0);
            near.cue(50 + gap - 1, 0, 0);
            // The third comes ahead of the second, and its box is another one.
            channels("25: the gap " + gap, near, 0, 1, 8);
        }
    }

    private static void gapWithinASpare() {
        MortarShow show = cueATick(4, 3);
        killAll(show);
        show.kill(2, 6);
        show.kill(2, 7);
        channels("26: a spare keeps its box waiting", show, 22, -1, -1, 23);
        show.kill(2, 0);
        channels("26: and so does a channel that is no spare", show, 16, -1, -1, 22);
    }

    private static void darkCuesKeepNoBoxWaiting() {
        MortarShow show = cueATick(5, 2);
        killAll(show);
        for (int channel = 0; channel < 8; channel++) {
            show.kill(1, channel);
        }
        channels("26: each second one is dark", show, 8, -1, 9, -1, 10);
    }

    /** "8 times the box, and the channel, together; -1 if it has none": the spares 6 and 7 come last. */
    private static void channelsFromTheFirstToTheLast() {
        MortarShow show = showOf(40, 0);
        channels("26: of one tick", show, 0, 1, 2, 3, 4, 5, 8, 9, 10, 11, 12, 13, 16, 17, 18, 19, 20, 21,
                24, 25, 26, 27, 28, 29, 6, 7, 14, 15, 22, 23, 30, 31, -1, -1, -1, -1, -1, -1, -1, -1);
        Check.same("13: the last channel's", show.becomes(31), 0);
        Check.same("13: the next is dark", show.becomes(32), 3);
        Check.same("13: the last is dark", show.becomes(39), 3);
        show.cut(10);
        Check.same("26: the next has the last channel then", show.channelOf(32), 31);
    }

    private static void spareOnlyIfNoBoxHasAnother() {
        MortarShow show = showOf(2, 1);
        for (int channel = 0; channel < 6; channel++) {
            show.kill(0, channel);
        }
        channels("26: the next boxes have one", show, 8, 16);
        for (int at = 8; at < 32; at++) {
            if (at % 8 < 6) {
                show.kill(at / 8, at % 8);
            }
        }
        channels("26: no box has one", show, 6, 14);
        show.kill(3, 5);
        channels("26: the last box has one", show, 29, 6);
    }

    /** "of the lowest box that has one, the lowest channel that is sound, no spare, and not given so far". */
    private static void lowestBoxThatHasOne() {
        MortarShow show = showOf(4, 0);
        show.kill(0, 0);
        show.kill(0, 2);
        channels("26: dead ones are left out", show, 1, 3, 4, 5);
        show.kill(0, 4);
        show.kill(0, 5);
        channels("26: the next box", show, 1, 3, 8, 9);
        show.kill(0, 0);
        channels("26: one that is sound again", show, 0, 1, 3, 8);
    }

    private static void noChannelForWhatIsNotFired() {
        MortarShow show = new MortarShow();
        show.setRack(1, 5, 5);
        show.setPeople(5, 5, 1);
        show.cue(3, 0, 1);
        show.cue(0, 0, 0);
        show.cue(3, 0, 0);
        channels("26: struck, too early, fired", show, -1, -1, 0);
        show.setPeople(0, 0, 1);
        Check.same("26: struck, and had one", show.channelOf(2), -1);
        show.setPeople(0, 0, 0);
        Check.same("26: it has one again", show.channelOf(2), 0);
        show.setTempo(1);
        Check.same("26: too early, and had one", show.channelOf(2), -1);
        show.setTempo(20);
        killAll(show);
        Check.same("26: dark, and had one", show.channelOf(2), -1);
        killAll(show);
        Check.refused(Check.INDEX, "26: not made", () -> show.channelOf(3));
        show.cut(2);
        Check.refused(Check.INDEX, "26: cut", () -> show.channelOf(2));
        Check.same("27: its channel", show.cueOn(0, 0), -1);
    }

    /** "one after the other, by the ticks at which they are fired, of the same tick the lower number first". */
    private static void channelsByTicksThenNumbers() {
        MortarShow show = new MortarShow();
        show.setTempo(1);
        show.setGap(0);
        show.cue(100, 0, 0);
        show.cue(5, 0, 0);
        show.cue(100, 0, 0);
        show.cue(5, 0, 0);
        show.cue(50, 0, 0);
        channels("26: by ticks", show, 3, 0, 4, 1, 2);
    }

    private static void cueOnRanges() {
        MortarShow show = showOf(1, 0);
        Check.range(Check.ARGUMENT, "27: cueOn, box", 0, 3, box -> show.cueOn(box, 1));
        Check.range(Check.ARGUMENT, "27: cueOn, channel", 0, 7, channel -> show.cueOn(1, channel));
        Check.same("27: the cue 0", show.cueOn(0, 0), 0);
    }

    /** "Returns the cue of a channel, -1 if it has none." */
    private static void cueOnFromNoneToAll() {
        MortarShow empty = new MortarShow();
        for (int at = 0; at < 32; at++) {
            Check.same("27: without cues", empty.cueOn(at / 8, at % 8), -1);
        }
        MortarShow show = showOf(40, 0);
        for (int at = 0; at < 32; at++) {
            int cue = show.cueOn(at / 8, at % 8);
            Check.same("27: the cue of " + at + " is fired by it", show.channelOf(cue), at);
        }
        show.kill(3, 7);
        Check.same("27: a dead channel", show.cueOn(3, 7), -1);
        Check.same("27: the last one beside it", show.cueOn(3, 6), 30);
    }

    /** "Returns how many spares have cues." */
    private static void sparesFromNoneToAll() {
        MortarShow show = showOf(0, 0);
        for (int made = 1; made <= 40; made++) {
            show.cue(10, 0, 0);
            Check.same("28: spares of " + made, show.spares(), Math.max(0, Math.min(8, made - 24)));
        }
        show.setGap(1);
        Check.same("28: none is needed", show.spares(), 0);
        show.setGap(0);
        show.setPeople(0, 0, 1);
        Check.same("28: all are struck", show.spares(), 0);
    }
}
