import java.math.BigInteger;
import java.util.ArrayList;
import java.util.Comparator;
import java.util.HashMap;
import java.util.List;
import java.util.Map;
import java.util.SortedMap;
import java.util.TreeMap;
import java.util.TreeSet;

/**
 * The document once more, as plainly as it can be said, with the Java library and without a plan that is
 * kept: everything is told anew at each call. MortarShow is held against it.
 */
final class PlainShow {
    record Zone(int column, int line) { }

    record Shell(int speed, int fall, int radius) { }

    record Told(int x, int y, int height, int ticks, int[] inLayer) { }

    record Made(int beat, int kind, int rack) { }

    private static final BigInteger LIMIT = BigInteger.valueOf(Integer.MAX_VALUE);

    private final Map<Zone, Integer> people = new HashMap<>();
    private final Map<Zone, Integer> values = new HashMap<>();
    private final Zone[] racks = new Zone[6];
    private final Shell[] shells = new Shell[4];
    private final int[][] winds = new int[4][2];
    private final SortedMap<Integer, Made> made = new TreeMap<>();
    private final TreeSet<Integer> dead = new TreeSet<>();
    private final int[] rates = {1, 1, 1, 1, 1, 1, 1, 1, 1, 1};
    private int ever = 0;
    private int tempo = 20;
    private int gap = 2;

    PlainShow() {
        for (int rack = 0; rack < 6; rack++) {
            racks[rack] = new Zone(0, 0);
        }
        for (int kind = 0; kind < 4; kind++) {
            shells[kind] = new Shell(50, 20, 0);
        }
    }

    private static void argument(boolean good) {
        if (!good) {
            throw new IllegalArgumentException();
        }
    }

    private static boolean in(int value, int least, int most) {
        return least <= value && value <= most;
    }

    private Made there(int cue) {
        if (!made.containsKey(cue)) {
            throw new IndexOutOfBoundsException();
        }
        return made.get(cue);
    }

    int setRack(int rack, int column, int line) {
        argument(in(rack, 0, 5) && in(column, 0, 7) && in(line, 0, 7));
        Zone before = racks[rack];
        racks[rack] = new Zone(column, line);
        return 8 * before.line + before.column;
    }

    int setShell(int kind, int speed, int fall, int radius) {
        argument(in(kind, 0, 3) && in(speed, 1, 200) && in(fall, 1, 100) && in(radius, 0, 3));
        shells[kind] = new Shell(speed, fall, radius);
        return lift(kind);
    }

    int setWind(int layer, int x, int y) {
        argument(in(layer, 0, 3) && in(x, -100, 100) && in(y, -100, 100));
        List<Integer> before = struck();
        winds[layer] = new int[] {x, y};
        List<Integer> after = struck();
        after.removeAll(before);
        return after.size();
    }

    int setPeople(int column, int line, int count) {
        argument(in(column, 0, 7) && in(line, 0, 7) && count >= 0);
        Integer before = people.put(new Zone(column, line), count);
        return before == null ? 0 : before;
    }

    int setValue(int column, int line, int value) {
        argument(in(column, 0, 7) && in(line, 0, 7) && in(value, 0, 100000000));
        Integer before = values.put(new Zone(column, line), value);
        return before == null ? 0 : before;
    }

    int peopled() {
        return (int) people.values().stream().filter(count -> count > 0).count();
    }

    /** A flight from the racks' corner: up to the burst alone, or down to the ground. */
    private Told fly(int kind, boolean toBurst) {
        int height = 0;
        int speed = shells[kind].speed;
        int x = 0;
        int y = 0;
        int[] inLayer = new int[4];
        int burstTick = 0;
        for (int tick = 1; ; tick++) {
            int layer = height >= 750 ? 3 : height >= 500 ? 2 : height >= 250 ? 1 : 0;
            inLayer[layer]++;
            x += winds[layer][0];
            y += winds[layer][1];
            if (burstTick == 0) {
                height += speed;
                speed -= 10;
                if (speed <= 0) {
                    burstTick = tick;
                    if (toBurst) {
                        return new Told(x, y, height, tick, inLayer);
                    }
                }
            } else {
                height -= shells[kind].fall;
                if (height <= 0) {
                    return new Told(x, y, height, tick, inLayer);
                }
            }
        }
    }

    private int lift(int kind) {
        return fly(kind, true).ticks;
    }

    int flight(int kind) {
        argument(in(kind, 0, 3));
        return fly(kind, false).ticks;
    }

    int inLayer(int kind, int layer) {
        argument(in(kind, 0, 3) && in(layer, 0, 3));
        return fly(kind, false).inLayer[layer];
    }

    int cue(int beat, int kind, int rack) {
        argument(in(beat, 0, 100) && in(kind, 0, 3) && in(rack, 0, 5));
        if (ever == 40) {
            throw new IllegalStateException();
        }
        made.put(ever, new Made(beat, kind, rack));
        return ever++;
    }

    int cut(int cue) {
        there(cue);
        made.remove(cue);
        return made.size();
    }

    int setTempo(int ticks) {
        argument(in(ticks, 1, 100));
        int before = tempo;
        tempo = ticks;
        return before;
    }

    private static int down(int distance) {
        return (int) Math.floor(distance / 100.0);
    }

    int falls(int cue, int what) {
        Made c = there(cue);
        argument(in(what, 0, 3));
        Told end = fly(c.kind, false);
        int x = 100 * racks[c.rack].column + 50 + end.x;
        int y = 100 * racks[c.rack].line + 50 + end.y;
        return new int[] {x, y, down(x), down(y)}[what];
    }

    int burstAt(int cue, int what) {
        Made c = there(cue);
        argument(in(what, 0, 2));
        Told burst = fly(c.kind, true);
        int x = 100 * racks[c.rack].column + 50 + burst.x;
        int y = 100 * racks[c.rack].line + 50 + burst.y;
        return new int[] {x, y, burst.height}[what];
    }

    private List<Zone> zones(int cue) {
        int column = falls(cue, 2);
        int line = falls(cue, 3);
        int radius = shells[there(cue).kind].radius;
        List<Zone> zones = new ArrayList<>();
        for (int c = 0; c < 8; c++) {
            for (int l = 0; l < 8; l++) {
                if (Math.abs(c - column) <= radius && Math.abs(l - line) <= radius) {
                    zones.add(new Zone(c, l));
                }
            }
        }
        return zones;
    }

    long danger(int cue) {
        there(cue);
        BigInteger bits = BigInteger.ZERO;
        for (Zone zone : zones(cue)) {
            bits = bits.setBit(8 * zone.line + zone.column);
        }
        return bits.longValue();
    }

    private boolean isStruck(int cue) {
        return zones(cue).stream().anyMatch(zone -> people.getOrDefault(zone, 0) > 0);
    }

    private List<Integer> struck() {
        List<Integer> struck = new ArrayList<>();
        for (int cue : made.keySet()) {
            if (isStruck(cue)) {
                struck.add(cue);
            }
        }
        return struck;
    }

    private int closedBelow(int beat) {
        TreeSet<Integer> beats = new TreeSet<>();
        made.values().forEach(c -> beats.add(c.beat));
        made.forEach((cue, c) -> {
            if (c.beat >= beat || !isStruck(cue)) {
                beats.remove(c.beat);
            }
        });
        return beats.size();
    }

    int closed() {
        return closedBelow(101);
    }

    int bursts(int cue) {
        int beat = there(cue).beat;
        return (beat - closedBelow(beat)) * tempo;
    }

    int fires(int cue) {
        return bursts(cue) - lift(there(cue).kind);
    }

    /** The channels of the cues that have one. */
    private Map<Integer, Integer> channels() {
        Map<Integer, Integer> ticks = new TreeMap<>();
        for (int cue : made.keySet()) {
            if (!isStruck(cue) && fires(cue) >= 0) {
                ticks.put(cue, fires(cue));
            }
        }
        List<Integer> order = new ArrayList<>(ticks.keySet());
        order.sort(Comparator.comparing((Integer cue) -> ticks.get(cue)).thenComparing(cue -> cue));
        Map<Integer, Integer> channels = new TreeMap<>();
        for (int cue : order) {
            int channel = channelFor(ticks.get(cue), ticks, channels);
            if (channel >= 0) {
                channels.put(cue, channel);
            }
        }
        return channels;
    }

    private int channelFor(int tick, Map<Integer, Integer> ticks, Map<Integer, Integer> channels) {
        for (int spare = 0; spare < 2; spare++) {
            for (int box = 0; box < 4; box++) {
                int its = box;
                boolean rests = channels.entrySet().stream().noneMatch(
                        e -> e.getValue() / 8 == its && Math.abs(ticks.get(e.getKey()) - tick) < gap);
                for (int channel = 0; channel < 8; channel++) {
                    int at = 8 * box + channel;
                    boolean isSpare = channel == 6 || channel == 7;
                    if (rests && isSpare == (spare == 1) && !dead.contains(at) && !channels.containsValue(at)) {
                        return at;
                    }
                }
            }
        }
        return -1;
    }

    int becomes(int cue) {
        there(cue);
        if (isStruck(cue)) {
            return 1;
        }
        return fires(cue) < 0 ? 2 : channels().containsKey(cue) ? 0 : 3;
    }

    int cues() {
        return made.size();
    }

    int fired() {
        return channels().size();
    }

    int firing(int place) {
        List<Integer> order = new ArrayList<>(channels().keySet());
        if (place < 0 || place >= order.size()) {
            throw new IndexOutOfBoundsException();
        }
        order.sort(Comparator.comparing(this::fires).thenComparing(cue -> cue));
        return order.get(place);
    }

    boolean kill(int box, int channel) {
        argument(in(box, 0, 3) && in(channel, 0, 7));
        int at = 8 * box + channel;
        if (dead.remove(at)) {
            return false;
        }
        return dead.add(at);
    }

    int setGap(int ticks) {
        argument(in(ticks, 0, 20));
        int before = gap;
        gap = ticks;
        return before;
    }

    int channelOf(int cue) {
        there(cue);
        return channels().getOrDefault(cue, -1);
    }

    int cueOn(int box, int channel) {
        argument(in(box, 0, 3) && in(channel, 0, 7));
        for (Map.Entry<Integer, Integer> e : channels().entrySet()) {
            if (e.getValue() == 8 * box + channel) {
                return e.getKey();
            }
        }
        return -1;
    }

    int spares() {
        return (int) channels().values().stream().filter(at -> at % 8 > 5).count();
    }

    int setRate(int hour, int rate) {
        argument(in(hour, 0, 9) && in(rate, 0, 100000));
        int before = rates[hour];
        rates[hour] = rate;
        return before;
    }

    private BigInteger fullPrice(int cue) {
        BigInteger sum = BigInteger.ONE;
        for (Zone zone : zones(cue)) {
            sum = sum.add(BigInteger.valueOf(values.getOrDefault(zone, 0)));
        }
        return sum.multiply(BigInteger.valueOf(rates[Math.min(9, fires(cue) / 100)]));
    }

    int price(int cue) {
        there(cue);
        if (becomes(cue) != 0) {
            return -1;
        }
        BigInteger price = fullPrice(cue);
        return price.compareTo(LIMIT) > 0 ? -2 : price.intValue();
    }

    int total() {
        BigInteger sum = BigInteger.ZERO;
        for (int cue : channels().keySet()) {
            if (price(cue) == -2) {
                return -2;
            }
            sum = sum.add(fullPrice(cue));
        }
        return sum.compareTo(LIMIT) > 0 ? -2 : sum.intValue();
    }
}
