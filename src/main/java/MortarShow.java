import java.util.Arrays;

/**
 * A house of fireworks: cues whose bursts fall on beats, shells that rise, burst and fall through
 * layers of wind, zones that must be empty of people, a show that closes up where a wind strikes all
 * shells of a beat, channels of firing boxes with spares, and an insurer who prices the zones by the
 * hour.
 */
public final class MortarShow {
    private static final int SIDE = 8;
    private static final int ZONE_SIZE = 100;
    private static final int MOST_VALUE = 100_000_000;

    private static final int RACKS = 6;
    private static final int KINDS = 4;
    private static final int MOST_SPEED = 200;
    private static final int MOST_FALL = 100;
    private static final int MOST_RADIUS = 3;
    private static final int FIRST_SPEED = 50;
    private static final int FIRST_FALL = 20;
    private static final int SPEED_LOST = 10;

    private static final int LAYERS = 4;
    private static final int LAYER_HEIGHT = 250;
    private static final int MOST_WIND = 100;

    // The longest flight that setShell lets in has 2120 ticks.
    private static final int MOST_TICKS = 1_000_000;

    private static final int MOST_CUES = 40;
    private static final int BEATS = 101;
    private static final int FIRST_TEMPO = 20;
    private static final int MOST_TEMPO = 100;

    private static final int FIRED = 0;
    private static final int STRUCK = 1;
    private static final int EARLY = 2;
    private static final int DARK = 3;

    private static final int BOXES = 4;
    private static final int CHANNELS = 8;
    private static final int FIRST_SPARE = 6;
    private static final int FIRST_GAP = 2;
    private static final int MOST_GAP = 20;

    // Further ahead of the tick 0 than the longest gap, so that it never keeps a box waiting.
    private static final int LONG_AGO = -1000;

    private static final int HOURS = 10;
    private static final int HOUR_TICKS = 100;
    private static final int MOST_RATE = 100_000;
    private static final int MOST_PRICE = 2147483647;

    private static final int NONE = -1;
    private static final int REFUSED = -2;

    private final Ground ground = new Ground();
    private final Rack[] racks = new Rack[RACKS];
    private final Kind[] kinds = new Kind[KINDS];
    private final Wind wind = new Wind();
    private final Flight flown = new Flight();
    private final Cue[] cueList = new Cue[MOST_CUES];
    private final Beats beats = new Beats();
    private final Boxes boxes = new Boxes();
    private final Cue[] queue = new Cue[MOST_CUES];
    private final int[] rates = new int[HOURS];
    private int made = 0;
    private int left = 0;
    private int queued = 0;
    private int tempo = FIRST_TEMPO;
    private boolean planned = false;

    public MortarShow() {
        for (int rack = 0; rack < RACKS; rack++) {
            racks[rack] = new Rack();
        }
        for (int kind = 0; kind < KINDS; kind++) {
            kinds[kind] = new Kind();
        }
        for (int hour = 0; hour < HOURS; hour++) {
            rates[hour] = 1;
        }
    }

    // ---- the ground, racks, shells, wind

    public int setRack(int rack, int column, int line) throws IllegalArgumentException {
        if (outside(rack, 0, RACKS - 1) || offGround(column, line)) {
            throw new IllegalArgumentException("rack, column or line is out of range");
        }
        int before = zoneOf(racks[rack].column, racks[rack].line);
        racks[rack].column = column;
        racks[rack].line = line;
        planned = false;
        return before;
    }

    public int setShell(int kind, int speed, int fall, int radius) throws IllegalArgumentException {
        if (outside(kind, 0, KINDS - 1) || outside(speed, 1, MOST_SPEED)
                || outside(fall, 1, MOST_FALL) || outside(radius, 0, MOST_RADIUS)) {
            throw new IllegalArgumentException("kind, speed, fall or radius is out of range");
        }
        kinds[kind].shape(speed, fall, radius);
        planned = false;
        return kinds[kind].lift;
    }

    public int setWind(int layer, int x, int y) throws IllegalArgumentException {
        if (outside(layer, 0, LAYERS - 1) || outside(x, -MOST_WIND, MOST_WIND)
                || outside(y, -MOST_WIND, MOST_WIND)) {
            throw new IllegalArgumentException("layer, x or y is out of range");
        }
        long before = struckCues();
        wind.x[layer] = x;
        wind.y[layer] = y;
        planned = false;
        return Long.bitCount(struckCues() & ~before);
    }

    public int setPeople(int column, int line, int people) throws IllegalArgumentException {
        if (offGround(column, line) || people < 0) {
            throw new IllegalArgumentException("column or line is out of range, or people is below 0");
        }
        int zone = zoneOf(column, line);
        int before = ground.people[zone];
        ground.people[zone] = people;
        planned = false;
        return before;
    }

    public int setValue(int column, int line, int value) throws IllegalArgumentException {
        if (offGround(column, line) || outside(value, 0, MOST_VALUE)) {
            throw new IllegalArgumentException("column, line or value is out of range");
        }
        int zone = zoneOf(column, line);
        int before = ground.values[zone];
        ground.values[zone] = value;
        return before;
    }

    public int peopled() {
        return Long.bitCount(ground.zonesWithPeople());
    }

    public int flight(int kind) throws IllegalArgumentException {
        if (outside(kind, 0, KINDS - 1)) {
            throw new IllegalArgumentException("kind is out of range");
        }
        return kinds[kind].ticks;
    }

    public int inLayer(int kind, int layer) throws IllegalArgumentException {
        if (outside(kind, 0, KINDS - 1) || outside(layer, 0, LAYERS - 1)) {
            throw new IllegalArgumentException("kind or layer is out of range");
        }
        return kinds[kind].ticksIn[layer];
    }

    // ---- cues

    public int cue(int beat, int kind, int rack) throws IllegalArgumentException, IllegalStateException {
        if (outside(beat, 0, BEATS - 1) || outside(kind, 0, KINDS - 1) || outside(rack, 0, RACKS - 1)) {
            throw new IllegalArgumentException("beat, kind or rack is out of range");
        }
        if (made >= MOST_CUES) {
            throw new IllegalStateException("there were 40 cues");
        }
        int number = made;
        cueList[number] = new Cue(number, beat, kinds[kind], racks[rack]);
        made++;
        left++;
        planned = false;
        return number;
    }

    public int cut(int cue) throws IndexOutOfBoundsException {
        Cue gone = found(cue);
        cueList[gone.number] = null;
        left--;
        planned = false;
        return left;
    }

    public int setTempo(int ticks) throws IllegalArgumentException {
        if (outside(ticks, 1, MOST_TEMPO)) {
            throw new IllegalArgumentException("ticks is out of range");
        }
        int before = tempo;
        tempo = ticks;
        planned = false;
        return before;
    }

    public int becomes(int cue) throws IndexOutOfBoundsException {
        return foundAndPlanned(cue).fate;
    }

    public int bursts(int cue) throws IndexOutOfBoundsException {
        return foundAndPlanned(cue).burstTick;
    }

    public int fires(int cue) throws IndexOutOfBoundsException {
        return foundAndPlanned(cue).fireTick;
    }

    public int falls(int cue, int what) throws IndexOutOfBoundsException, IllegalArgumentException {
        Cue falling = found(cue);
        if (outside(what, 0, 3)) {
            throw new IllegalArgumentException("what is out of range");
        }
        return placeTold(what, fallX(falling), fallY(falling));
    }

    public int fallsBySteps(int cue, int what) throws IndexOutOfBoundsException, IllegalArgumentException {
        Cue falling = found(cue);
        if (outside(what, 0, 3)) {
            throw new IllegalArgumentException("what is out of range");
        }
        flown.start(falling.kind, falling.rack);
        for (int tick = 0; tick < MOST_TICKS && !flown.height.landed; tick++) {
            flown.driveAndPass(wind);
        }
        return placeTold(what, flown.x, flown.y);
    }

    public int burstAt(int cue, int what) throws IndexOutOfBoundsException, IllegalArgumentException {
        Cue bursting = found(cue);
        if (outside(what, 0, 2)) {
            throw new IllegalArgumentException("what is out of range");
        }
        flown.start(bursting.kind, bursting.rack);
        for (int tick = 0; tick < MOST_TICKS && !flown.height.burst; tick++) {
            flown.driveAndPass(wind);
        }
        if (what == 2) {
            return flown.height.now;
        }
        return what == 0 ? flown.x : flown.y;
    }

    public long danger(int cue) throws IndexOutOfBoundsException {
        return foundAndPlanned(cue).zones;
    }

    // ---- the show

    public int cues() {
        return left;
    }

    public int fired() {
        plan();
        return queued;
    }

    public int firing(int place) throws IndexOutOfBoundsException {
        plan();
        if (place < 0 || place >= queued) {
            throw new IndexOutOfBoundsException("there is no such place");
        }
        return queue[place].number;
    }

    public int closed() {
        plan();
        return beats.closedInAll;
    }

    // ---- boxes

    public boolean kill(int box, int channel) throws IllegalArgumentException {
        if (outside(box, 0, BOXES - 1) || outside(channel, 0, CHANNELS - 1)) {
            throw new IllegalArgumentException("box or channel is out of range");
        }
        int at = CHANNELS * box + channel;
        boxes.dead[at] = !boxes.dead[at];
        planned = false;
        return boxes.dead[at];
    }

    public int setGap(int ticks) throws IllegalArgumentException {
        if (outside(ticks, 0, MOST_GAP)) {
            throw new IllegalArgumentException("ticks is out of range");
        }
        int before = boxes.gap;
        boxes.gap = ticks;
        planned = false;
        return before;
    }

    public int channelOf(int cue) throws IndexOutOfBoundsException {
        return foundAndPlanned(cue).channel;
    }

    public int cueOn(int box, int channel) throws IllegalArgumentException {
        if (outside(box, 0, BOXES - 1) || outside(channel, 0, CHANNELS - 1)) {
            throw new IllegalArgumentException("box or channel is out of range");
        }
        plan();
        return boxes.given[CHANNELS * box + channel];
    }

    public int spares() {
        plan();
        return boxes.sparesGiven();
    }

    // ---- prices

    public int setRate(int hour, int rate) throws IllegalArgumentException {
        if (outside(hour, 0, HOURS - 1) || outside(rate, 0, MOST_RATE)) {
            throw new IllegalArgumentException("hour or rate is out of range");
        }
        int before = rates[hour];
        rates[hour] = rate;
        return before;
    }

    public int price(int cue) throws IndexOutOfBoundsException {
        Cue priced = foundAndPlanned(cue);
        return priced.fate == FIRED ? refusedOver(priceOf(priced)) : NONE;
    }

    public int total() {
        plan();
        long sum = 0;
        for (int place = 0; place < queued; place++) {
            // No price is below 0, so that a price that is refused keeps the sum above the limit too.
            sum += priceOf(queue[place]);
        }
        return refusedOver(sum);
    }

    // ---- what the calls share

    private static boolean outside(int value, int least, int most) {
        return value < least || value > most;
    }

    private static boolean offGround(int column, int line) {
        return outside(column, 0, SIDE - 1) || outside(line, 0, SIDE - 1);
    }

    private static int zoneOf(int column, int line) {
        return SIDE * line + column;
    }

    private static int placeTold(int what, int x, int y) {
        switch (what) {
            case 0:
                return x;
            case 1:
                return y;
            case 2:
                return Math.floorDiv(x, ZONE_SIZE);
            default:
                return Math.floorDiv(y, ZONE_SIZE);
        }
    }

    private Cue found(int number) throws IndexOutOfBoundsException {
        if (outside(number, 0, MOST_CUES - 1) || cueList[number] == null) {
            throw new IndexOutOfBoundsException("there is no such cue");
        }
        return cueList[number];
    }

    private Cue foundAndPlanned(int number) throws IndexOutOfBoundsException {
        Cue cue = found(number);
        plan();
        return cue;
    }

    private int fallX(Cue cue) {
        return cue.rack.middleX() + cue.kind.drift(wind.x);
    }

    private int fallY(Cue cue) {
        return cue.rack.middleY() + cue.kind.drift(wind.y);
    }

    // ---- the plan of the show: everything that follows from what was set, told once after a change

    private void plan() {
        if (planned) {
            return;
        }
        planned = true;
        strikeCues();
        beats.closeUp(cueList);
        queueUp();
        giveChannels();
    }

    private void strikeCues() {
        long peopledZones = ground.zonesWithPeople();
        for (Cue cue : cueList) {
            if (cue != null) {
                int column = Math.floorDiv(fallX(cue), ZONE_SIZE);
                int line = Math.floorDiv(fallY(cue), ZONE_SIZE);
                cue.zones = zonesAround(column, line, cue.kind.radius);
                cue.fate = (cue.zones & peopledZones) != 0 ? STRUCK : FIRED;
            }
        }
    }

    private static long zonesAround(int column, int line, int radius) {
        long zones = 0;
        for (int l = Math.max(0, line - radius); l <= Math.min(SIDE - 1, line + radius); l++) {
            for (int c = Math.max(0, column - radius); c <= Math.min(SIDE - 1, column + radius); c++) {
                zones |= 1L << zoneOf(c, l);
            }
        }
        return zones;
    }

    private long struckCues() {
        plan();
        long struck = 0;
        for (Cue cue : cueList) {
            if (cue != null && cue.fate == STRUCK) {
                struck |= 1L << cue.number;
            }
        }
        return struck;
    }

    private void queueUp() {
        queued = 0;
        for (Cue cue : cueList) {
            if (cue != null) {
                cue.burstTick = (cue.beat - beats.closedBefore[cue.beat]) * tempo;
                cue.fireTick = cue.burstTick - cue.kind.lift;
                cue.channel = NONE;
                if (cue.fate == FIRED && cue.fireTick < 0) {
                    cue.fate = EARLY;
                }
                if (cue.fate == FIRED) {
                    queueByTick(cue);
                }
            }
        }
    }

    // Cues come by their numbers: one of the same tick stays behind those that are there.
    private void queueByTick(Cue cue) {
        if (queued >= MOST_CUES) {
            return;
        }
        int place = queued;
        while (place > 0 && queue[place - 1].fireTick > cue.fireTick) {
            queue[place] = queue[place - 1];
            place--;
        }
        queue[place] = cue;
        queued++;
    }

    // Cues that get a channel move up in the queue to the places of the dark ones ahead of them.
    private void giveChannels() {
        boxes.clear();
        int lit = 0;
        for (int place = 0; place < queued; place++) {
            Cue cue = queue[place];
            cue.channel = boxes.give(cue.number, cue.fireTick);
            if (cue.channel == NONE) {
                cue.fate = DARK;
            } else {
                queue[lit] = cue;
                lit++;
            }
        }
        queued = lit;
    }

    private long priceOf(Cue cue) {
        int hour = Math.max(0, Math.min(HOURS - 1, cue.fireTick / HOUR_TICKS));
        return (ground.valueOf(cue.zones) + 1) * rates[hour];
    }

    private static int refusedOver(long price) {
        return price > MOST_PRICE ? REFUSED : (int) price;
    }

    /** The zones, by 8 times their line, and their column, together. */
    private static final class Ground {
        final int[] people = new int[SIDE * SIDE];
        final int[] values = new int[SIDE * SIDE];

        long zonesWithPeople() {
            long zones = 0;
            for (int zone = 0; zone < SIDE * SIDE; zone++) {
                if (people[zone] > 0) {
                    zones |= 1L << zone;
                }
            }
            return zones;
        }

        long valueOf(long zones) {
            long sum = 0;
            for (int zone = 0; zone < SIDE * SIDE; zone++) {
                if ((zones >>> zone & 1L) != 0) {
                    sum += values[zone];
                }
            }
            return sum;
        }
    }

    /** A rack, and the zone in which it is. */
    private static final class Rack {
        int column = 0;
        int line = 0;

        int middleX() {
            return column * ZONE_SIZE + ZONE_SIZE / 2;
        }

        int middleY() {
            return line * ZONE_SIZE + ZONE_SIZE / 2;
        }
    }

    /** By how much each layer of the wind drives a shell in a tick. */
    private static final class Wind {
        final int[] x = new int[LAYERS];
        final int[] y = new int[LAYERS];
    }

    /** A kind of shells, and what its flight is like in any wind. */
    private static final class Kind {
        final int[] ticksIn = new int[LAYERS];
        final Height height = new Height();
        int speed;
        int fall;
        int radius;
        int lift;
        int ticks;

        Kind() {
            shape(FIRST_SPEED, FIRST_FALL, 0);
        }

        void shape(int newSpeed, int newFall, int newRadius) {
            speed = newSpeed;
            fall = newFall;
            radius = newRadius;
            lift = 0;
            ticks = 0;
            Arrays.fill(ticksIn, 0);
            height.start(speed, fall);
            for (int tick = 0; tick < MOST_TICKS && !height.landed; tick++) {
                ticksIn[height.layer()]++;
                ticks++;
                lift += height.burst ? 0 : 1;
                height.pass();
            }
        }

        int drift(int[] windByLayer) {
            int drift = 0;
            for (int layer = 0; layer < LAYERS; layer++) {
                drift += ticksIn[layer] * windByLayer[layer];
            }
            return drift;
        }
    }

    /** The height of one shell, tick by tick. */
    private static final class Height {
        int speed;
        int fall;
        int now;
        boolean burst;
        boolean landed;

        void start(int firstSpeed, int fallAfterBurst) {
            speed = firstSpeed;
            fall = fallAfterBurst;
            now = 0;
            burst = false;
            landed = false;
        }

        int layer() {
            return Math.max(0, Math.min(LAYERS - 1, now / LAYER_HEIGHT));
        }

        void pass() {
            if (burst) {
                now -= fall;
                landed = now <= 0;
            } else {
                now += speed;
                speed -= SPEED_LOST;
                burst = speed <= 0;
            }
        }
    }

    /** One shell in the wind, tick by tick. */
    private static final class Flight {
        final Height height = new Height();
        int x;
        int y;

        void start(Kind kind, Rack rack) {
            height.start(kind.speed, kind.fall);
            x = rack.middleX();
            y = rack.middleY();
        }

        void driveAndPass(Wind wind) {
            int layer = height.layer();
            x += wind.x[layer];
            y += wind.y[layer];
            height.pass();
        }
    }

    /** A cue, and what the plan of the show makes of it. */
    private static final class Cue {
        final int number;
        final int beat;
        final Kind kind;
        final Rack rack;
        long zones = 0;
        int burstTick = 0;
        int fireTick = 0;
        int fate = FIRED;
        int channel = NONE;

        Cue(int number, int beat, Kind kind, Rack rack) {
            this.number = number;
            this.beat = beat;
            this.kind = kind;
            this.rack = rack;
        }
    }

    /** The beats, and which of them close up. */
    private static final class Beats {
        final int[] cuesOn = new int[BEATS];
        final int[] struckOn = new int[BEATS];
        final int[] closedBefore = new int[BEATS];
        int closedInAll = 0;

        void closeUp(Cue[] cueList) {
            Arrays.fill(cuesOn, 0);
            Arrays.fill(struckOn, 0);
            for (Cue cue : cueList) {
                if (cue != null) {
                    cuesOn[cue.beat]++;
                    struckOn[cue.beat] += cue.fate == STRUCK ? 1 : 0;
                }
            }
            closedInAll = 0;
            for (int beat = 0; beat < BEATS; beat++) {
                closedBefore[beat] = closedInAll;
                if (cuesOn[beat] > 0 && struckOn[beat] == cuesOn[beat]) {
                    closedInAll++;
                }
            }
        }
    }

    /** The firing boxes; a channel is known by 8 times its box, and its place in it, together. */
    private static final class Boxes {
        final boolean[] dead = new boolean[BOXES * CHANNELS];
        final int[] given = new int[BOXES * CHANNELS];
        final int[] lastTick = new int[BOXES];
        int gap = FIRST_GAP;

        void clear() {
            Arrays.fill(given, NONE);
            Arrays.fill(lastTick, LONG_AGO);
        }

        // Cues are given channels by their ticks, so that the last one of a box is the nearest to the next.
        int give(int cueNumber, int tick) {
            int channel = lowestFree(0, FIRST_SPARE, tick);
            if (channel == NONE) {
                channel = lowestFree(FIRST_SPARE, CHANNELS, tick);
            }
            if (channel != NONE) {
                given[channel] = cueNumber;
                lastTick[channel / CHANNELS] = tick;
            }
            return channel;
        }

        private int lowestFree(int first, int end, int tick) {
            for (int box = 0; box < BOXES; box++) {
                if (tick - lastTick[box] >= gap) {
                    for (int channel = first; channel < end; channel++) {
                        int at = CHANNELS * box + channel;
                        if (!dead[at] && given[at] == NONE) {
                            return at;
                        }
                    }
                }
            }
            return NONE;
        }

        int sparesGiven() {
            int spares = 0;
            for (int at = 0; at < BOXES * CHANNELS; at++) {
                if (at % CHANNELS >= FIRST_SPARE && given[at] != NONE) {
                    spares++;
                }
            }
            return spares;
        }
    }
}
