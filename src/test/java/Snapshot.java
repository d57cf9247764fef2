/** All that can be told of a show, as one text. The telling itself changes the show: it goes last. */
final class Snapshot {
    private static final int HIGH_CUES = 9;

    private final MortarShow show;
    private final StringBuilder text = new StringBuilder();

    private Snapshot(MortarShow show) {
        this.show = show;
    }

    /** Some 380 calls: all of a show with at most nine cues. */
    static String of(MortarShow show) {
        Snapshot told = new Snapshot(show);
        told.ask();
        for (int cue = 0; cue < HIGH_CUES; cue++) {
            told.askCue(cue);
            told.askShell(cue);
        }
        told.overwrite();
        return told.text.toString();
    }

    /** Some 330 calls: of all forty cues of a show, less of each. */
    static String ofFull(MortarShow show) {
        Snapshot told = new Snapshot(show);
        told.ask();
        for (int cue = 0; cue < 40; cue++) {
            told.askCue(cue);
        }
        return told.text.toString();
    }

    /** Some 190 calls: what was set, told by other calls than those that only ask, as far as there are such. */
    static String ofSettings(MortarShow show) {
        Snapshot told = new Snapshot(show);
        told.overwrite();
        told.askWinds();
        return told.text.toString();
    }

    private void add(String call, Check.Call made) {
        text.append(call).append(' ').append(Check.told(made)).append('\n');
    }

    private void ask() {
        add("peopled", show::peopled);
        add("cues", show::cues);
        add("fired", show::fired);
        add("closed", show::closed);
        add("spares", show::spares);
        add("total", show::total);
        for (int kind = 0; kind < 4; kind++) {
            int k = kind;
            add("flight", () -> show.flight(k));
            for (int layer = 0; layer < 4; layer++) {
                int l = layer;
                add("inLayer", () -> show.inLayer(k, l));
            }
        }
        for (int at = 0; at < 32; at++) {
            int a = at;
            add("cueOn", () -> show.cueOn(a / 8, a % 8));
            add("firing", () -> show.firing(a));
        }
    }

    private void askCue(int cue) {
        add("becomes", () -> show.becomes(cue));
        add("bursts", () -> show.bursts(cue));
        add("fires", () -> show.fires(cue));
        add("danger", () -> show.danger(cue));
        add("channelOf", () -> show.channelOf(cue));
        add("price", () -> show.price(cue));
    }

    private void askShell(int cue) {
        for (int what = 0; what < 2; what++) {
            int w = what;
            add("falls", () -> show.falls(cue, w));
            add("fallsBySteps", () -> show.fallsBySteps(cue, w));
            add("burstAt", () -> show.burstAt(cue, w));
        }
    }

    /** A shell of the cue 0 that passes all layers tells their winds. */
    private void askWinds() {
        add("setShell", () -> show.setShell(0, 200, 1, 0));
        add("falls", () -> show.falls(0, 0));
        add("falls", () -> show.falls(0, 1));
    }

    /** What was set is told by setting something else. */
    private void overwrite() {
        add("cue", () -> show.cue(0, 0, 0));
        add("setTempo", () -> show.setTempo(1));
        add("setGap", () -> show.setGap(0));
        for (int rack = 0; rack < 6; rack++) {
            int r = rack;
            add("setRack", () -> show.setRack(r, 0, 0));
        }
        for (int hour = 0; hour < 10; hour++) {
            int h = hour;
            add("setRate", () -> show.setRate(h, 0));
        }
        for (int zone = 0; zone < 64; zone++) {
            int z = zone;
            add("setPeople", () -> show.setPeople(z % 8, z / 8, 0));
            add("setValue", () -> show.setValue(z % 8, z / 8, 0));
        }
        for (int at = 0; at < 32; at++) {
            int a = at;
            add("kill", () -> show.kill(a / 8, a % 8) ? 1 : 0);
        }
    }
}
