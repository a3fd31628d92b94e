/**
 * Where the widow walks is the road. What each call answers is told by the document's promises; words in capitals
 * there are names here.
 *
 * <p>Inside, a cell is a SPOT: 8 X + Y, so that a set of cells is the bits of one long. Spots and told cells
 * (10 X + Y) come in the same order: the least spot is the least cell.
 */
public final class WidowRoads {
    public static final int NONE = -1;

    private static final int NO_SUCH = -2;
    private static final int NO_WAY = -3;
    private static final int BELOW_ZERO = -3;
    private static final int FAULTY = -4;
    private static final int BARRED = -5;
    private static final int NOTHING = -6;
    private static final int NO_NUMBER = -7;
    private static final int OTHER_WIDTH = -8;
    private static final int NO_GAIN = -1_000;
    private static final int NO_SHARE = -1_000_000;

    private static final int MAX_TAPE = 900;
    private static final int MAX_YEARS = 12;
    private static final int MAX_LAW = 3;
    private static final int MAX_ODDS = 10;
    private static final int MAX_SIDE = 8;
    private static final int MAX_CREEKS = 12;
    private static final int MAX_HOUSES = 6;
    private static final int MAX_WIDOWS = 7;
    private static final int MAX_STEPS = 40;
    private static final int MAX_TURNS = 8;
    private static final int MAX_ACTS = 30;
    private static final int MAX_SLOTS = 4;
    private static final int MAX_NUMBERS = 60;
    private static final int MAX_WIDTH = 3;
    private static final int MAX_IMAGES = 3;
    private static final int MAX_SEED = 2_000_000_000;
    private static final int MAX_DECADES = 20;
    private static final int SIDES = 4;
    private static final int SPOTS = 64;
    private static final int SETS = 128;
    /** First cell and all steps: what one widow takes in a row of paths. */
    private static final int TRACK = MAX_STEPS + 1;
    /** Y 7 has no cell below it, though the next spot is there: it is the top of the next column. */
    private static final long NOT_LOWEST = 0x7F7F7F7F7F7F7F7FL;

    private final Reader reader = new Reader();
    private final Colony told = new Colony();
    /** null: an image that keeps nothing yet. */
    private final Colony[] images = new Colony[MAX_IMAGES];
    private final Supposal supposal = new Supposal();
    private final Story now = new Story();
    private final Story spare = new Story();
    private final Evenings evenings = new Evenings();
    private final Net net = new Net();
    private final Rows rows = new Rows();
    private final Fraction fraction = new Fraction();
    private final int[] tracks = new int[SIDES * TRACK];

    public WidowRoads() {
    }

    // ---- the tape and the colony

    public int feed(int a, int b, int c, int d, int e) {
        if (reader.tape.length > MAX_TAPE - 20) {
            return NONE;
        }
        reader.tape.put(a);
        reader.tape.put(b);
        reader.tape.put(c);
        reader.tape.put(d);
        reader.tape.put(e);
        return reader.tape.length;
    }

    public int end(int n) {
        if (n < 0 || n > reader.tape.length) {
            return NONE;
        }
        reader.tape.length = n;
        return n;
    }

    public int colony() {
        reader.read();
        if (reader.fault != 0) {
            return FAULTY;
        }
        reader.tape.length = 0;
        told.become(reader.into);
        walkAnew();
        return told.lines;
    }

    public int fault(int what) {
        if (what == 0) {
            return reader.fault;
        }
        return what == 1 ? reader.place : NONE;
    }

    public int creek(int cell) {
        int spot = told.spotOf(cell);
        if (spot == NONE) {
            return NO_SUCH;
        }
        return oneIf(has(told.creekBits(), spot));
    }

    public int widow(int widow, int what) {
        if (!told.hasWidow(widow)) {
            return NO_SUCH;
        }
        switch (what) {
            case 0:
                return cellOf(told.starts[widow]);
            case 1:
                return told.faces[widow];
            case 2:
                return told.paces[widow];
            case 3:
                return told.years[widow];
            case 4:
                return told.turns[widow];
            default:
                return NO_SUCH;
        }
    }

    public int grief(int widow, int i) {
        if (!told.hasWidow(widow) || i < 0) {
            return NO_SUCH;
        }
        return i < told.turns[widow] ? told.griefs[widow * MAX_TURNS + i] : NONE;
    }

    // ---- one widow's walk

    public int at(int widow, int step) {
        if (!told.hasWidow(widow) || !isStep(step)) {
            return NO_SUCH;
        }
        return cellOf(now.spotAt(widow, step));
    }

    public int steps(int widow) {
        return told.hasWidow(widow) ? now.lasts[widow] : NO_SUCH;
    }

    public int stands(int widow) {
        if (!told.hasWidow(widow)) {
            return NO_SUCH;
        }
        return now.walks(widow) ? now.stood[widow] : NONE;
    }

    public int ground(int widow) {
        if (!told.hasWidow(widow)) {
            return NO_SUCH;
        }
        return now.walks(widow) ? Long.bitCount(now.been[widow]) : NONE;
    }

    public int loop(int widow) {
        if (!told.hasWidow(widow)) {
            return NO_SUCH;
        }
        int first = now.spotAt(widow, 0);
        for (int step = 1; step <= now.lasts[widow]; step++) {
            if (now.spotAt(widow, step) == first && now.spotAt(widow, step - 1) != first) {
                return step;
            }
        }
        return NONE;
    }

    public int haunt(int widow) {
        if (!told.hasWidow(widow)) {
            return NO_SUCH;
        }
        int most = 0;
        int best = NONE;
        for (int spot = 0; spot < SPOTS; spot++) {
            int often = now.timesAt(widow, spot);
            if (often > most) {
                most = often;
                best = spot;
            }
        }
        return cellOf(best);
    }

    public int evening(int year) {
        if (!told.hasYear(year) || year == told.span) {
            return NO_SUCH;
        }
        int bits = 0;
        for (int w = 0; w < told.widows; w++) {
            if (told.years[w] == year && now.walks(w)) {
                bits |= 1 << w;
            }
        }
        return bits;
    }

    public int visits(int widow, int cell) {
        int spot = told.spotOf(cell);
        if (!told.hasWidow(widow) || spot == NONE) {
            return NO_SUCH;
        }
        return now.timesAt(widow, spot);
    }

    public int straight(int widow) {
        if (!told.hasWidow(widow)) {
            return NO_SUCH;
        }
        if (!now.walks(widow)) {
            return NONE;
        }
        int length = straightWay(now.spotAt(widow, 0), now.spotAt(widow, now.lasts[widow]));
        return length == NONE ? NO_WAY : length;
    }

    // ---- the roads of a year

    public int road(int cell, int year) {
        int spot = told.spotOf(cell);
        if (spot == NONE || !told.hasYear(year)) {
            return NO_SUCH;
        }
        return oneIf(has(now.roads[year], spot));
    }

    public int roads(int year) {
        return told.hasYear(year) ? Long.bitCount(now.roads[year]) : NO_SUCH;
    }

    public int pegs(int year) {
        return told.hasYear(year) ? now.pegsIn(year) : NO_SUCH;
    }

    public int joins(int cell, int year) {
        int spot = told.spotOf(cell);
        if (spot == NONE || !told.hasYear(year)) {
            return NO_SUCH;
        }
        net.lay(now, year);
        return net.sidesJoined(spot);
    }

    public int corners(int n, int year) {
        if (n < 0 || n > SIDES || !told.hasYear(year)) {
            return NO_SUCH;
        }
        net.lay(now, year);
        return net.cellsJoinedBy(n);
    }

    public int nets(int year) {
        if (!told.hasYear(year)) {
            return NO_SUCH;
        }
        net.lay(now, year);
        return net.parts();
    }

    public int missing(int year) {
        if (!told.hasYear(year)) {
            return NO_SUCH;
        }
        net.lay(now, year);
        int parts = net.parts();
        net.layAll(now.roads[year]);
        if (net.parts() > 1) {
            return NONE;
        }
        return Math.max(parts - 1, 0);
    }

    public int rings(int year) {
        if (!told.hasYear(year)) {
            return NO_SUCH;
        }
        net.lay(now, year);
        return now.pegsIn(year) - Long.bitCount(now.roads[year]) + net.parts();
    }

    public int bridges(int year) {
        if (!told.hasYear(year)) {
            return NO_SUCH;
        }
        net.lay(now, year);
        return net.cuts();
    }

    public int net(int cell, int year) {
        int spot = told.spotOf(cell);
        if (spot == NONE || !told.hasYear(year)) {
            return NO_SUCH;
        }
        net.lay(now, year);
        return Long.bitCount(net.reach(spot));
    }

    public int way(int cell, int other, int year) {
        int from = told.spotOf(cell);
        int to = told.spotOf(other);
        if (from == NONE || to == NONE || !told.hasYear(year)) {
            return NO_SUCH;
        }
        net.lay(now, year);
        return net.distance(from, to);
    }

    public int beeline(int cell, int other) {
        int from = told.spotOf(cell);
        int to = told.spotOf(other);
        if (from == NONE || to == NONE) {
            return NO_SUCH;
        }
        return straightWay(from, to);
    }

    public int farthest(int cell, int year) {
        int spot = told.spotOf(cell);
        if (spot == NONE || !told.hasYear(year)) {
            return NO_SUCH;
        }
        net.lay(now, year);
        return cellOf(net.outermost(spot));
    }

    public int crossing() {
        if (told.lines == 0) {
            return NO_SUCH;
        }
        int most = 0;
        int best = NONE;
        for (int spot = 0; spot < SPOTS; spot++) {
            int many = Integer.bitCount(widowsIn(spot));
            if (many > most) {
                most = many;
                best = spot;
            }
        }
        return cellOf(best);
    }

    public int shared(int widow, int other) {
        if (!told.hasWidow(widow) || !told.hasWidow(other)) {
            return NO_SUCH;
        }
        return Long.bitCount(now.been[widow] & now.been[other]);
    }

    public int walked(int cell) {
        int spot = told.spotOf(cell);
        return spot == NONE ? NO_SUCH : widowsIn(spot);
    }

    public int first(int cell) {
        int spot = told.spotOf(cell);
        if (spot == NONE) {
            return NO_SUCH;
        }
        for (int year = 0; year <= told.span; year++) {
            if (has(now.roads[year], spot)) {
                return year;
            }
        }
        return NONE;
    }

    public int line(int year) {
        if (!told.hasYear(year)) {
            return NO_SUCH;
        }
        net.lay(now, year);
        return net.longestRow();
    }

    // ---- houses

    public int house(int house, int year) {
        if (!told.hasHouse(house) || !told.hasYear(year)) {
            return NO_SUCH;
        }
        return cellOf(now.homes[year * MAX_HOUSES + house]);
    }

    public int moved(int house) {
        return told.hasHouse(house) ? now.shifts[house] : NO_SUCH;
    }

    public int moves(int widow) {
        if (!told.hasWidow(widow)) {
            return NO_SUCH;
        }
        return now.walks(widow) ? now.shifted[widow] : NONE;
    }

    public int served(int year) {
        if (!told.hasYear(year)) {
            return NO_SUCH;
        }
        int many = 0;
        for (int h = 0; h < told.houses; h++) {
            int spot = now.homes[year * MAX_HOUSES + h];
            if (spot != NONE && (around(spot) & now.roads[year]) != 0) {
                many++;
            }
        }
        return many;
    }

    // ---- who and what it is owed to

    public int cover() {
        return told.lines == 0 ? NO_SUCH : Integer.bitCount(fewestCovering());
    }

    public int covers() {
        return told.lines == 0 ? NO_SUCH : fewestCovering();
    }

    public int blame() {
        if (told.lines == 0) {
            return NO_SUCH;
        }
        int fewest = now.allShifts();
        int best = NONE;
        for (int w = 0; w < told.widows; w++) {
            supposal.asNow(told);
            supposal.walkers &= ~(1 << w);
            spare.tell(told, supposal);
            if (spare.allShifts() < fewest) {
                fewest = spare.allShifts();
                best = w;
            }
        }
        return best;
    }

    public int ford() {
        if (told.lines == 0) {
            return NO_SUCH;
        }
        int most = now.pegsIn(told.span);
        int best = NONE;
        for (int c = 0; c < told.creeks; c++) {
            supposal.asNow(told);
            supposal.creeks &= ~bit(told.creekSpots[c]);
            spare.tell(told, supposal);
            if (spare.pegsIn(told.span) > most) {
                most = spare.pegsIn(told.span);
                best = c;
            }
        }
        return best;
    }

    // ---- what was seen

    public int faced(int slot, int widow) {
        int refusal = refusalOfSeen(slot, widow);
        return refusal != 0 ? refusal : facesFitting(slot, widow);
    }

    public int griefs(int slot, int widow) {
        int refusal = refusalOfSeen(slot, widow);
        if (refusal != 0) {
            return refusal;
        }
        int bits = 0;
        for (int turn = 0; turn < SIDES; turn++) {
            supposal.asNow(told);
            supposal.widow = widow;
            supposal.turn = turn;
            spare.tell(told, supposal);
            bits |= oneIf(rows.fits(slot, told, spare)) << turn;
        }
        return bits;
    }

    public int ask(int slot, int widow) {
        int refusal = refusalOfSeen(slot, widow);
        if (refusal != 0) {
            return refusal;
        }
        int fitting = facesFitting(slot, widow);
        int fewest = Integer.bitCount(fitting);
        int best = NONE;
        for (int step = 0; step <= MAX_STEPS; step++) {
            int left = leftAtWorst(fitting, step);
            if (left < fewest) {
                fewest = left;
                best = step;
            }
        }
        return best;
    }

    public int leaves(int slot, int widow) {
        int refusal = refusalOfSeen(slot, widow);
        if (refusal != 0) {
            return refusal;
        }
        int fitting = facesFitting(slot, widow);
        int fewest = Integer.bitCount(fitting);
        for (int step = 0; step <= MAX_STEPS; step++) {
            fewest = Math.min(fewest, leftAtWorst(fitting, step));
        }
        return fewest;
    }

    public int laws(int slot) {
        int refusal = refusalOfRow(slot);
        if (refusal != 0) {
            return refusal;
        }
        int bits = 0;
        for (int law = 0; law <= MAX_LAW; law++) {
            tellByLaw(law);
            bits |= oneIf(rows.fits(slot, told, spare)) << law;
        }
        return bits;
    }

    public int by(int law) {
        if (told.lines == 0 || law < 0 || law > MAX_LAW) {
            return NO_SUCH;
        }
        tellByLaw(law);
        return spare.pegsIn(told.span);
    }

    public int law() {
        if (told.lines == 0) {
            return NO_SUCH;
        }
        int most = NONE;
        int best = NONE;
        for (int law = 0; law <= MAX_LAW; law++) {
            tellByLaw(law);
            if (spare.pegsIn(told.span) > most) {
                most = spare.pegsIn(told.span);
                best = law;
            }
        }
        return best;
    }

    // ---- sets, games and chances

    public int worth(int set) {
        if (told.lines == 0 || set < 0 || set >= 1 << told.widows) {
            return NO_SUCH;
        }
        evenings.know(told, supposal, spare);
        return evenings.pegs[set];
    }

    public int share(int widow, int what) {
        if (!told.hasWidow(widow) || !isPart(what)) {
            return NO_SHARE;
        }
        evenings.know(told, supposal, spare);
        evenings.shareOf(told, widow, fraction);
        return (int) fraction.part(what);
    }

    public int rests(int widow, int other) {
        if (!areTwo(widow, other)) {
            return NO_SUCH;
        }
        int bits = 0;
        for (int pair = 0; pair < 4; pair++) {
            int x = pair & 1;
            int y = pair >> 1;
            boolean firstRests = gain(widow, other, x, y) >= gain(widow, other, 1 - x, y);
            boolean otherRests = gain(other, widow, y, x) >= gain(other, widow, 1 - y, x);
            bits |= oneIf(firstRests && otherRests) << pair;
        }
        return bits;
    }

    public int gets(int widow, int other, int x, int y) {
        if (!areTwo(widow, other) || !isPart(x) || !isPart(y)) {
            return NO_GAIN;
        }
        return gain(widow, other, x, y);
    }

    public long chance(int cell, int what) {
        int spot = told.spotOf(cell);
        if (spot == NONE || !isPart(what)) {
            return NO_SUCH;
        }
        evenings.know(told, supposal, spare);
        evenings.chanceOfRoad(told, spot, fraction);
        return fraction.part(what);
    }

    public long mean(int what) {
        if (told.lines == 0 || !isPart(what)) {
            return NO_SUCH;
        }
        evenings.know(told, supposal, spare);
        evenings.meanOfPegs(told, fraction);
        return fraction.part(what);
    }

    // ---- acts

    public int bridge(int cell) {
        int spot = told.spotOf(cell);
        if (spot == NONE) {
            return NO_SUCH;
        }
        return act(spot);
    }

    public int keeps(int widow) {
        if (!told.hasWidow(widow)) {
            return NO_SUCH;
        }
        return act(SPOTS + widow);
    }

    public int undo() {
        if (told.lines == 0) {
            return NO_SUCH;
        }
        if (told.acts == 0) {
            return BARRED;
        }
        told.acts--;
        walkAnew();
        return told.acts;
    }

    public int anew() {
        if (told.lines == 0) {
            return NO_SUCH;
        }
        int were = told.acts;
        told.acts = 0;
        walkAnew();
        return were;
    }

    // ---- decades drawn

    public int drawn(int seed, int what) {
        if (told.lines == 0 || !isSeed(seed) || !isPart(what)) {
            return NO_SUCH;
        }
        int fog = fogDrawn(seed);
        if (what == 0) {
            return fog;
        }
        tellInFog(fog);
        return spare.pegsIn(told.span);
    }

    public int luck(int seed, int n, int cell) {
        int spot = told.spotOf(cell);
        if (spot == NONE || !isSeed(seed) || n < 1 || n > MAX_DECADES) {
            return NO_SUCH;
        }
        int many = 0;
        for (int i = 0; i < n; i++) {
            tellInFog(fogDrawn(seed + i));
            many += oneIf(has(spare.roads[told.span], spot));
        }
        return many;
    }

    public int rate(int widow, int n) {
        if (!told.hasWidow(widow) || n < 1 || n > MAX_STEPS) {
            return NO_SUCH;
        }
        if (told.acts > 0) {
            return BARRED;
        }
        int were = told.paces[widow];
        told.paces[widow] = n;
        walkAnew();
        return were;
    }

    public int count(int what) {
        switch (what) {
            case 0:
                return told.span;
            case 1:
                return told.rule;
            case 2:
                return told.odds;
            case 3:
                return told.wide;
            case 4:
                return told.high;
            case 5:
                return told.creeks;
            case 6:
                return told.houses;
            case 7:
                return told.widows;
            case 8:
                return told.acts;
            case 9:
                return told.lines;
            case 10:
                return reader.tape.length;
            case 11:
                return rows.many();
            default:
                return NONE;
        }
    }

    // ---- images

    public int image(int k) {
        if (k < 0 || k >= MAX_IMAGES) {
            return NO_SUCH;
        }
        if (images[k] == null) {
            images[k] = new Colony();
        }
        images[k].become(told);
        return 0;
    }

    public int back(int k) {
        if (k < 0 || k >= MAX_IMAGES) {
            return NO_SUCH;
        }
        if (images[k] == null) {
            return NOTHING;
        }
        told.become(images[k]);
        walkAnew();
        return 0;
    }

    // ---- slots

    public int row(int slot, int width, int n) {
        if (!isSlot(slot) || width < 0 || width > MAX_WIDTH || n > MAX_NUMBERS) {
            return NO_SUCH;
        }
        if (n < 0) {
            return BELOW_ZERO;
        }
        rows.clear(slot, width, n);
        return 0;
    }

    public int write(int slot, int i, long v) {
        if (!isSlot(slot)) {
            return NO_SUCH;
        }
        if (rows.empty(slot)) {
            return NOTHING;
        }
        if (i < 0 || i >= rows.sizes[slot]) {
            return NO_NUMBER;
        }
        rows.put(slot, i, v);
        return 0;
    }

    public int paste(int slot, int i, int to, int k, int n) {
        if (!isSlot(slot) || !isSlot(to)) {
            return NO_SUCH;
        }
        if (rows.empty(slot) || rows.empty(to)) {
            return NOTHING;
        }
        if (rows.widths[slot] != rows.widths[to]) {
            return OTHER_WIDTH;
        }
        if (!rows.holds(slot, i, n) || !rows.holds(to, k, n)) {
            return NO_NUMBER;
        }
        rows.move(slot, i, to, k, n);
        return 0;
    }

    // ---- what the calls above share

    private void walkAnew() {
        supposal.asNow(told);
        now.tell(told, supposal);
        evenings.known = false;
    }

    private int act(int act) {
        if (told.acts >= MAX_ACTS) {
            return BARRED;
        }
        told.actsDone[told.acts] = act;
        told.acts++;
        walkAnew();
        return now.pegsIn(told.span);
    }

    private int straightWay(int from, int to) {
        net.layAll(told.field() & ~told.creekBits());
        return net.distance(from, to);
    }

    private int widowsIn(int spot) {
        int bits = 0;
        for (int w = 0; w < told.widows; w++) {
            bits |= oneIf(has(now.been[w], spot)) << w;
        }
        return bits;
    }

    private int fewestCovering() {
        int best = NONE;
        int fewest = MAX_WIDOWS + 1;
        for (int set = 0; set < 1 << told.widows; set++) {
            int many = Integer.bitCount(set);
            if (many < fewest && (now.roads[told.span] & ~cellsOf(set)) == 0) {
                fewest = many;
                best = set;
            }
        }
        return best;
    }

    private long cellsOf(int set) {
        long cells = 0;
        for (int w = 0; w < told.widows; w++) {
            if ((set >> w & 1) == 1) {
                cells |= now.been[w];
            }
        }
        return cells;
    }

    private int refusalOfSeen(int slot, int widow) {
        return told.hasWidow(widow) ? refusalOfRow(slot) : NO_SUCH;
    }

    private int refusalOfRow(int slot) {
        if (told.lines == 0 || !isSlot(slot)) {
            return NO_SUCH;
        }
        if (rows.empty(slot)) {
            return NOTHING;
        }
        return rows.tellsOf(slot, told) ? 0 : NO_SUCH;
    }

    /** Leaves her track by each D in {@code tracks}, for {@code leftAtWorst}. */
    private int facesFitting(int slot, int widow) {
        int bits = 0;
        for (int d = 0; d < SIDES; d++) {
            supposal.asNow(told);
            supposal.widow = widow;
            supposal.faces = d;
            spare.tell(told, supposal);
            bits |= oneIf(rows.fits(slot, told, spare)) << d;
            for (int step = 0; step <= MAX_STEPS; step++) {
                tracks[d * TRACK + step] = spare.spotAt(widow, step);
            }
        }
        return bits;
    }

    private int leftAtWorst(int fitting, int step) {
        int worst = 0;
        for (int d = 0; d < SIDES; d++) {
            int alike = 0;
            for (int e = 0; e < SIDES; e++) {
                boolean both = (fitting >> d & fitting >> e & 1) == 1;
                alike += oneIf(both && tracks[d * TRACK + step] == tracks[e * TRACK + step]);
            }
            worst = Math.max(worst, alike);
        }
        return worst;
    }

    private void tellByLaw(int law) {
        supposal.asNow(told);
        supposal.rule = law;
        spare.tell(told, supposal);
    }

    private void tellInFog(int fog) {
        supposal.asNow(told);
        supposal.walkers &= ~fog;
        spare.tell(told, supposal);
    }

    private int fogDrawn(int seed) {
        long x = seed;
        int fog = 0;
        for (int w = 0; w < told.widows; w++) {
            x = (1_103_515_245L * x + 12_345L) & 0x7FFF_FFFFL;
            fog |= oneIf(x / 65_536 % 10 < told.odds) << w;
        }
        return fog;
    }

    private int gain(int widow, int second, int x, int y) {
        tellInFog(x << widow | y << second);
        return spare.gainOf(widow);
    }

    private boolean areTwo(int widow, int second) {
        return told.hasWidow(widow) && told.hasWidow(second) && widow != second;
    }

    private static boolean isStep(long step) {
        return step >= 0 && step <= MAX_STEPS;
    }

    private static boolean isSlot(int slot) {
        return slot >= 0 && slot < MAX_SLOTS;
    }

    private static boolean isSeed(int seed) {
        return seed >= 0 && seed <= MAX_SEED;
    }

    /** Above or below of a fraction, in or out of two choices: 0 or 1. */
    private static boolean isPart(int what) {
        return what == 0 || what == 1;
    }

    private static int oneIf(boolean holds) {
        return holds ? 1 : 0;
    }

    private static int cellOf(int spot) {
        return spot == NONE ? NONE : 10 * (spot >> 3) + (spot & 7);
    }

    private static long bit(int spot) {
        return 1L << spot;
    }

    private static boolean has(long cells, int spot) {
        return (cells >>> spot & 1) == 1;
    }

    /** The least of some cells; cells must not be empty. */
    private static int leastOf(long cells) {
        return Long.bitCount((cells & -cells) - 1);
    }

    /** The spot next to one towards D, within 8 by 8; NONE beyond. */
    private static int beside(int spot, int d) {
        switch (d) {
            case 0:
                return (spot & 7) == 0 ? NONE : spot - 1;
            case 1:
                return spot >> 3 == 7 ? NONE : spot + MAX_SIDE;
            case 2:
                return (spot & 7) == 7 ? NONE : spot + 1;
            default:
                return spot >> 3 == 0 ? NONE : spot - MAX_SIDE;
        }
    }

    private static long around(int spot) {
        long cells = 0;
        for (int d = 0; d < SIDES; d++) {
            int next = beside(spot, d);
            if (next != NONE) {
                cells |= bit(next);
            }
        }
        return cells;
    }

    /** The bytes that are fed. */
    private static final class Tape {
        private final byte[] bytes = new byte[MAX_TAPE];
        private int length;

        private void put(int number) {
            for (int shift = 24; shift >= 0 && length < MAX_TAPE; shift -= 8) {
                bytes[length] = (byte) (number >> shift);
                length++;
            }
        }

        /** The byte at a place, 0 .. 255; NONE behind the end. */
        private int byteAt(int i) {
            return i >= 0 && i < length ? bytes[i] & 255 : NONE;
        }
    }

    /** The tape, and how it is read as a colony; what stands behind the first fault is not looked at. */
    private static final class Reader {
        private static final int AT_END = 0;
        private static final int WORD = 1;
        private static final int NUMBER = 2;
        private static final int SIGN = 3;
        private static final int NO_TOKEN = 4;
        /** Numbers of more digits stay here: above every bound. */
        private static final int HUGE = 1_000_000;

        private int fault;
        private int place = NONE;
        private final Tape tape = new Tape();
        /** What has been read: a whole colony only when there is no fault. */
        private final Colony into = new Colony();
        private int kind;
        private int start;
        private int stop;

        private void read() {
            into.clear();
            fault = 0;
            place = NONE;
            stop = 0;
            next();
            for (int i = 0; i <= MAX_TAPE && fault == 0 && kind != AT_END; i++) {
                if (into.lines == 0) {
                    readColony();
                } else if (isWord("creek")) {
                    readCreek();
                } else if (isWord("house")) {
                    readHouse();
                } else if (isWord("widow")) {
                    readWidow();
                } else {
                    mark(1, start);
                }
                closeLine();
            }
        }

        private void closeLine() {
            if (kind != SIGN) {
                mark(1, start);
            }
            if (fault == 0) {
                next();
                into.lines++;
            }
        }

        private void mark(int which, int where) {
            if (fault == 0) {
                fault = which;
                place = where;
            }
        }

        private void next() {
            start = stop;
            while (start < MAX_TAPE && isBlank(tape.byteAt(start))) {
                start++;
            }
            int c = tape.byteAt(start);
            stop = start + 1;
            if (c == NONE) {
                kind = AT_END;
            } else if (isLetter(c)) {
                kind = WORD;
                while (stop < MAX_TAPE && isLetter(tape.byteAt(stop))) {
                    stop++;
                }
            } else if (isDigit(c)) {
                kind = NUMBER;
                while (stop < MAX_TAPE && isDigit(tape.byteAt(stop))) {
                    stop++;
                }
            } else {
                kind = c == ';' ? SIGN : NO_TOKEN;
            }
        }

        private void readColony() {
            word("colony");
            into.span = wordAndNumber("years", 1, MAX_YEARS);
            into.rule = wordAndNumber("law", 0, MAX_LAW);
            into.odds = wordAndNumber("odds", 0, MAX_ODDS);
            into.wide = wordAndNumber("wide", 2, MAX_SIDE);
            into.high = wordAndNumber("high", 2, MAX_SIDE);
        }

        private void readCreek() {
            if (into.creeks >= MAX_CREEKS) {
                mark(3, start);
                return;
            }
            next();
            into.creekSpots[into.creeks] = cell(into.creekBits());
            into.creeks++;
        }

        private void readHouse() {
            if (into.houses >= MAX_HOUSES) {
                mark(3, start);
                return;
            }
            next();
            into.houseSpots[into.houses] = cell(into.creekBits() | into.houseBits());
            into.houses++;
        }

        private void readWidow() {
            int w = into.widows;
            if (w >= MAX_WIDOWS) {
                mark(3, start);
                return;
            }
            next();
            into.starts[w] = cell(into.creekBits());
            into.faces[w] = wordAndNumber("faces", 0, SIDES - 1);
            into.paces[w] = wordAndNumber("steps", 1, MAX_STEPS);
            into.years[w] = wordAndNumber("at", 0, MAX_YEARS - 1);
            word("grief");
            readTurns(w);
            into.widows++;
        }

        private void readTurns(int w) {
            into.turns[w] = 0;
            for (int i = 0; i <= MAX_TURNS && fault == 0; i++) {
                int turn = turn();
                if (turn == NONE) {
                    if (i == 0) {
                        mark(1, start);
                    }
                    return;
                }
                if (i == MAX_TURNS) {
                    mark(3, start);
                    return;
                }
                into.griefs[w * MAX_TURNS + i] = turn;
                into.turns[w] = i + 1;
                next();
            }
        }

        private int turn() {
            if (isWord("on")) {
                return 0;
            }
            if (isWord("right")) {
                return 1;
            }
            if (isWord("back")) {
                return 2;
            }
            return isWord("left") ? 3 : NONE;
        }

        /** A cell with none of those that are taken: its Y is at fault otherwise. */
        private int cell(long taken) {
            int x = number(0, into.wide - 1);
            int placeOfY = start;
            int y = number(0, into.high - 1);
            int spot = MAX_SIDE * x + y;
            if (has(taken, spot)) {
                mark(2, placeOfY);
            }
            return spot;
        }

        private int wordAndNumber(String wanted, int low, int high) {
            word(wanted);
            return number(low, high);
        }

        private void word(String wanted) {
            if (!isWord(wanted)) {
                mark(1, start);
            }
            if (fault == 0) {
                next();
            }
        }

        /** The number that stands here; low, when it is at fault, so that what is built of it stays within bounds. */
        private int number(int low, int high) {
            if (kind != NUMBER) {
                mark(1, start);
            }
            if (fault != 0) {
                return low;
            }
            int value = 0;
            for (int i = start; i < stop; i++) {
                value = Math.min(10 * value + tape.byteAt(i) - '0', HUGE);
            }
            if (value < low || value > high) {
                mark(2, start);
                return low;
            }
            next();
            return value;
        }

        private boolean isWord(String wanted) {
            if (kind != WORD || stop - start != wanted.length()) {
                return false;
            }
            for (int i = 0; i < wanted.length(); i++) {
                if (tape.byteAt(start + i) != wanted.charAt(i)) {
                    return false;
                }
            }
            return true;
        }

        private static boolean isBlank(int c) {
            return c == 32 || c == 10;
        }

        private static boolean isLetter(int c) {
            return c >= 'a' && c <= 'z';
        }

        private static boolean isDigit(int c) {
            return c >= '0' && c <= '9';
        }
    }

    /** A colony as it is told, and the acts done to it. Without lines there is none. */
    private static final class Colony {
        private int lines;
        private int span;
        private int rule;
        private int odds;
        private int wide;
        private int high;
        private int creeks;
        private int houses;
        private int widows;
        private int acts;
        private final int[] creekSpots = new int[MAX_CREEKS];
        private final int[] houseSpots = new int[MAX_HOUSES];
        private final int[] starts = new int[MAX_WIDOWS];
        private final int[] faces = new int[MAX_WIDOWS];
        private final int[] paces = new int[MAX_WIDOWS];
        private final int[] years = new int[MAX_WIDOWS];
        private final int[] turns = new int[MAX_WIDOWS];
        private final int[] griefs = new int[MAX_WIDOWS * MAX_TURNS];
        /** Below SPOTS: a spot that is bridged; from there on: a widow who is kept in. */
        private final int[] actsDone = new int[MAX_ACTS];

        private void clear() {
            lines = 0;
            span = 0;
            rule = 0;
            odds = 0;
            wide = 0;
            high = 0;
            creeks = 0;
            houses = 0;
            widows = 0;
            acts = 0;
        }

        private void become(Colony model) {
            lines = model.lines;
            span = model.span;
            rule = model.rule;
            odds = model.odds;
            wide = model.wide;
            high = model.high;
            creeks = model.creeks;
            houses = model.houses;
            widows = model.widows;
            acts = model.acts;
            System.arraycopy(model.creekSpots, 0, creekSpots, 0, MAX_CREEKS);
            System.arraycopy(model.houseSpots, 0, houseSpots, 0, MAX_HOUSES);
            System.arraycopy(model.starts, 0, starts, 0, MAX_WIDOWS);
            System.arraycopy(model.faces, 0, faces, 0, MAX_WIDOWS);
            System.arraycopy(model.paces, 0, paces, 0, MAX_WIDOWS);
            System.arraycopy(model.years, 0, years, 0, MAX_WIDOWS);
            System.arraycopy(model.turns, 0, turns, 0, MAX_WIDOWS);
            System.arraycopy(model.griefs, 0, griefs, 0, MAX_WIDOWS * MAX_TURNS);
            System.arraycopy(model.actsDone, 0, actsDone, 0, MAX_ACTS);
        }

        private boolean hasWidow(long w) {
            return w >= 0 && w < widows;
        }

        private boolean hasHouse(int h) {
            return h >= 0 && h < houses;
        }

        private boolean hasYear(int year) {
            return lines > 0 && year >= 0 && year <= span;
        }

        /** NONE: there is no such cell. */
        private int spotOf(long cell) {
            if (cell < 0 || cell / 10 >= wide || cell % 10 >= high) {
                return NONE;
            }
            return (int) (MAX_SIDE * (cell / 10) + cell % 10);
        }

        private long field() {
            long cells = 0;
            for (int x = 0; x < wide; x++) {
                cells |= ((1L << high) - 1) << MAX_SIDE * x;
            }
            return cells;
        }

        /** Creeks told that are not bridged. */
        private long creekBits() {
            long cells = 0;
            for (int c = 0; c < creeks; c++) {
                cells |= bit(creekSpots[c]);
            }
            for (int i = 0; i < acts; i++) {
                if (actsDone[i] < SPOTS) {
                    cells &= ~bit(actsDone[i]);
                }
            }
            return cells;
        }

        private long houseBits() {
            long cells = 0;
            for (int h = 0; h < houses; h++) {
                cells |= bit(houseSpots[h]);
            }
            return cells;
        }

        /** Widows who are not kept in. */
        private int walkerBits() {
            int bits = (1 << widows) - 1;
            for (int i = 0; i < acts; i++) {
                if (actsDone[i] >= SPOTS) {
                    bits &= ~(1 << actsDone[i] - SPOTS);
                }
            }
            return bits;
        }
    }

    /** What is supposed when widows walk: as it is now, but for what a question sets otherwise. */
    private static final class Supposal {
        private int rule;
        private int walkers;
        private long creeks;
        /** The widow who faces otherwise, or has one turn alone; NONE: no one. */
        private int widow;
        private int faces;
        private int turn;

        private void asNow(Colony colony) {
            rule = colony.rule;
            walkers = colony.walkerBits();
            creeks = colony.creekBits();
            widow = NONE;
            faces = NONE;
            turn = NONE;
        }

        private int facesAtFirst(Colony colony, int w) {
            return w == widow && faces != NONE ? faces : colony.faces[w];
        }

        private int turnOf(Colony colony, int w, int i) {
            if (w == widow && turn != NONE) {
                return turn;
            }
            int many = colony.turns[w];
            return many > 0 ? colony.griefs[w * MAX_TURNS + i % many] : 0;
        }
    }

    /** All years of a colony, as widows walk by a supposal. */
    private static final class Story {
        private final int[] paths = new int[MAX_WIDOWS * TRACK];
        /** The last step of each; NONE: she does not walk. */
        private final int[] lasts = new int[MAX_WIDOWS];
        private final int[] stood = new int[MAX_WIDOWS];
        private final long[] been = new long[MAX_WIDOWS];
        /** How many houses are moved behind each one's walk. */
        private final int[] shifted = new int[MAX_WIDOWS];
        private final int[] shifts = new int[MAX_HOUSES];
        private final int[] homes = new int[(MAX_YEARS + 1) * MAX_HOUSES];
        private final long[] roads = new long[MAX_YEARS + 1];
        /** Pegs from a spot to the one with X more, and to the one with Y more. */
        private final long[] across = new long[MAX_YEARS + 1];
        private final long[] down = new long[MAX_YEARS + 1];
        private long field;
        private int houses;

        private void tell(Colony colony, Supposal supposal) {
            begin(colony);
            for (int year = 0; year < colony.span; year++) {
                copyYear(year);
                for (int w = 0; w < colony.widows; w++) {
                    if (colony.years[w] == year && (supposal.walkers >> w & 1) == 1) {
                        walk(colony, supposal, w, year + 1);
                        moveHouses(supposal, w, year + 1);
                    }
                }
            }
        }

        private void begin(Colony colony) {
            field = colony.field();
            houses = colony.houses;
            roads[0] = 0;
            across[0] = 0;
            down[0] = 0;
            for (int w = 0; w < MAX_WIDOWS; w++) {
                lasts[w] = NONE;
                stood[w] = 0;
                been[w] = 0;
                shifted[w] = 0;
            }
            for (int h = 0; h < MAX_HOUSES; h++) {
                homes[h] = h < houses ? colony.houseSpots[h] : NONE;
                shifts[h] = 0;
            }
        }

        private void copyYear(int year) {
            roads[year + 1] = roads[year];
            across[year + 1] = across[year];
            down[year + 1] = down[year];
            System.arraycopy(homes, year * MAX_HOUSES, homes, (year + 1) * MAX_HOUSES, MAX_HOUSES);
        }

        private void walk(Colony colony, Supposal supposal, int w, int year) {
            long before = roads[year];
            long open = field & ~supposal.creeks;
            int here = colony.starts[w];
            int facing = supposal.facesAtFirst(colony, w);
            boolean ended = false;
            been[w] = bit(here);
            paths[w * TRACK] = here;
            lasts[w] = 0;
            for (int step = 1; step <= colony.paces[w] && !ended; step++) {
                facing = (facing + supposal.turnOf(colony, w, step - 1)) & 3;
                int way = firstWay(here, facing, wished(supposal.rule, open, before, been[w]));
                if (way == NONE) {
                    way = firstWay(here, facing, open);
                }
                if (way == NONE) {
                    stood[w]++;
                } else {
                    facing = way;
                    peg(here, way, year);
                    here = beside(here, way);
                    been[w] |= bit(here);
                    ended = supposal.rule == 3 && has(before, here);
                }
                paths[w * TRACK + step] = here;
                lasts[w] = step;
            }
            roads[year] |= been[w];
        }

        /** The cells that the law would have her go to: where none of them is beside her, all open ones will do. */
        private static long wished(int rule, long open, long before, long seen) {
            if (rule == 1) {
                return open & ~before;
            }
            return rule == 2 ? open & ~seen : open;
        }

        private static int firstWay(int here, int facing, long free) {
            for (int i = 0; i < SIDES; i++) {
                int d = (facing + i) & 3;
                int next = beside(here, d);
                if (next != NONE && has(free, next)) {
                    return d;
                }
            }
            return NONE;
        }

        private void peg(int here, int d, int year) {
            int next = beside(here, d);
            int lower = Math.min(here, next);
            if (d == 1 || d == 3) {
                across[year] |= bit(lower);
            } else {
                down[year] |= bit(lower);
            }
        }

        private void moveHouses(Supposal supposal, int w, int year) {
            for (int h = 0; h < houses; h++) {
                int at = year * MAX_HOUSES + h;
                if (homes[at] != NONE && has(been[w], homes[at])) {
                    long left = field & ~supposal.creeks & ~roads[year] & ~homeBits(year);
                    homes[at] = left == 0 ? NONE : leastOf(left);
                    shifts[h]++;
                    shifted[w]++;
                }
            }
        }

        private long homeBits(int year) {
            long cells = 0;
            for (int h = 0; h < houses; h++) {
                int spot = homes[year * MAX_HOUSES + h];
                if (spot != NONE) {
                    cells |= bit(spot);
                }
            }
            return cells;
        }

        private boolean walks(int w) {
            return lasts[w] != NONE;
        }

        private int spotAt(int w, int step) {
            return step <= lasts[w] ? paths[w * TRACK + step] : NONE;
        }

        private int timesAt(int w, int spot) {
            int often = 0;
            for (int step = 0; step <= lasts[w]; step++) {
                often += oneIf(paths[w * TRACK + step] == spot);
            }
            return often;
        }

        private int pegsIn(int year) {
            return Long.bitCount(across[year]) + Long.bitCount(down[year]);
        }

        private int allShifts() {
            int many = 0;
            for (int h = 0; h < houses; h++) {
                many += shifts[h];
            }
            return many;
        }

        /** One who stays in is in no cell and moves no house: 0. */
        private int gainOf(int w) {
            return Long.bitCount(been[w]) - 2 * shifted[w];
        }
    }

    /** Some cells and what joins them. */
    private static final class Net {
        private long cells;
        private long across;
        private long down;

        private void lay(Story story, int year) {
            cells = story.roads[year];
            across = story.across[year];
            down = story.down[year];
        }

        /** Cells all joined where they lie side by side. */
        private void layAll(long some) {
            cells = some;
            across = some & some >>> MAX_SIDE;
            down = some & some >>> 1 & NOT_LOWEST;
        }

        /** Some cells and those one peg beyond them. */
        private long spread(long from) {
            long right = (from & across) << MAX_SIDE;
            long left = from >>> MAX_SIDE & across;
            long below = (from & down) << 1;
            long above = from >>> 1 & down;
            return from | right | left | below | above;
        }

        /** All cells that one is joined with, itself too; none, if it is not of the cells. */
        private long reach(int spot) {
            long seen = cells & bit(spot);
            long wider = spread(seen);
            for (int i = 0; i < SPOTS && wider != seen; i++) {
                seen = wider;
                wider = spread(seen);
            }
            return seen;
        }

        private int parts() {
            int many = 0;
            long rest = cells;
            for (int i = 0; i < SPOTS && rest != 0; i++) {
                rest &= ~reach(leastOf(rest));
                many++;
            }
            return many;
        }

        private int distance(int from, int to) {
            long seen = cells & bit(from);
            for (int far = 0; far < SPOTS; far++) {
                if (has(seen, to)) {
                    return far;
                }
                seen = spread(seen);
            }
            return NONE;
        }

        /** The least of the cells that are joined with one but farthest; NONE, if it is not of the cells. */
        private int outermost(int spot) {
            long seen = cells & bit(spot);
            long newest = seen;
            long wider = spread(seen);
            for (int i = 0; i < SPOTS && wider != seen; i++) {
                newest = wider & ~seen;
                seen = wider;
                wider = spread(seen);
            }
            return newest == 0 ? NONE : leastOf(newest);
        }

        private int sidesJoined(int spot) {
            int bits = oneIf(has(across, spot)) << 1 | oneIf(has(down, spot)) << 2;
            int up = beside(spot, 0);
            int left = beside(spot, 3);
            if (up != NONE) {
                bits |= oneIf(has(down, up));
            }
            if (left != NONE) {
                bits |= oneIf(has(across, left)) << 3;
            }
            return bits;
        }

        private int cellsJoinedBy(int pegs) {
            int many = 0;
            for (int spot = 0; spot < SPOTS; spot++) {
                many += oneIf(has(cells, spot) && Integer.bitCount(sidesJoined(spot)) == pegs);
            }
            return many;
        }

        /** Pegs without which their two cells are not joined. */
        private int cuts() {
            int many = 0;
            for (int spot = 0; spot < SPOTS; spot++) {
                long peg = bit(spot);
                if ((across & peg) != 0) {
                    across &= ~peg;
                    many += oneIf(!has(reach(spot), spot + MAX_SIDE));
                    across |= peg;
                }
                if ((down & peg) != 0) {
                    down &= ~peg;
                    many += oneIf(!has(reach(spot), spot + 1));
                    down |= peg;
                }
            }
            return many;
        }

        /** No row is longer than 7 pegs; pegs down never follow on from one column to the next. */
        private int longestRow() {
            int longest = 0;
            long alongX = across;
            long alongY = down;
            for (int i = 0; i < MAX_SIDE && (alongX | alongY) != 0; i++) {
                longest++;
                alongX &= alongX >>> MAX_SIDE;
                alongY &= alongY >>> 1;
            }
            return longest;
        }
    }

    /** What comes of each set of widows who alone walk; kept until the colony or its acts change. */
    private static final class Evenings {
        private final long[] roads = new long[SETS];
        private final int[] pegs = new int[SETS];
        private boolean known;

        private void know(Colony colony, Supposal supposal, Story story) {
            if (known) {
                return;
            }
            for (int set = 0; set < 1 << colony.widows; set++) {
                supposal.asNow(colony);
                supposal.walkers &= set;
                story.tell(colony, supposal);
                roads[set] = story.roads[colony.span];
                pegs[set] = story.pegsIn(colony.span);
            }
            known = true;
        }

        private void shareOf(Colony colony, int w, Fraction result) {
            long sum = 0;
            for (int set = 0; set < 1 << colony.widows; set++) {
                if ((set >> w & 1) == 0) {
                    int ahead = Integer.bitCount(set);
                    long orders = orders(ahead) * orders(colony.widows - 1 - ahead);
                    sum += orders * (pegs[set | 1 << w] - pegs[set]);
                }
            }
            result.reduce(sum, orders(colony.widows));
        }

        private static long orders(int n) {
            long product = 1;
            for (int i = 2; i <= n; i++) {
                product *= i;
            }
            return product;
        }

        private void chanceOfRoad(Colony colony, int spot, Fraction result) {
            long sum = 0;
            for (int set = 0; set < 1 << colony.widows; set++) {
                if (has(roads[set], spot)) {
                    sum += weight(colony, set);
                }
            }
            result.reduce(sum, power(10, colony.widows));
        }

        private void meanOfPegs(Colony colony, Fraction result) {
            long sum = 0;
            for (int set = 0; set < 1 << colony.widows; set++) {
                sum += weight(colony, set) * pegs[set];
            }
            result.reduce(sum, power(10, colony.widows));
        }

        /** In how many of ten to the widows cases just these are not kept in by fog. */
        private static long weight(Colony colony, int set) {
            int out = Integer.bitCount(set);
            return power(MAX_ODDS - colony.odds, out) * power(colony.odds, colony.widows - out);
        }

        private static long power(int base, int exponent) {
            long product = 1;
            for (int i = 0; i < exponent; i++) {
                product *= base;
            }
            return product;
        }
    }

    /** A fraction in lowest terms. */
    private static final class Fraction {
        private long above;
        private long below = 1;

        /** The lower number must be above 0. */
        private void reduce(long upper, long lower) {
            long a = Math.abs(upper);
            long b = lower;
            for (int i = 0; i < 100 && b != 0; i++) {
                long rest = a % b;
                a = b;
                b = rest;
            }
            above = a == 0 ? 0 : upper / a;
            below = a == 0 ? 1 : lower / a;
        }

        private long part(int what) {
            return what == 0 ? above : below;
        }
    }

    /** The slots' rows of numbers, each held as it is when cut to its width. */
    private static final class Rows {
        private final long[] numbers = new long[MAX_SLOTS * MAX_NUMBERS];
        private final boolean[] had = new boolean[MAX_SLOTS];
        private final int[] widths = new int[MAX_SLOTS];
        private final int[] sizes = new int[MAX_SLOTS];

        private boolean empty(int slot) {
            return !had[slot];
        }

        private int many() {
            int many = 0;
            for (int slot = 0; slot < MAX_SLOTS; slot++) {
                many += oneIf(had[slot]);
            }
            return many;
        }

        private void clear(int slot, int width, int n) {
            had[slot] = true;
            widths[slot] = width;
            sizes[slot] = n;
            for (int i = 0; i < MAX_NUMBERS; i++) {
                numbers[slot * MAX_NUMBERS + i] = 0;
            }
        }

        private void put(int slot, int i, long v) {
            numbers[slot * MAX_NUMBERS + i] = cut(v, widths[slot]);
        }

        private static long cut(long v, int width) {
            switch (width) {
                case 0:
                    return (byte) v;
                case 1:
                    return (short) v;
                case 2:
                    return (int) v;
                default:
                    return v;
            }
        }

        private boolean holds(int slot, int i, int n) {
            return i >= 0 && n >= 0 && n <= sizes[slot] && i <= sizes[slot] - n;
        }

        private void move(int slot, int i, int to, int k, int n) {
            System.arraycopy(numbers, slot * MAX_NUMBERS + i, numbers, to * MAX_NUMBERS + k, n);
        }

        /** Whether a row is of a widow, a step and a cell each. */
        private boolean tellsOf(int slot, Colony colony) {
            if (sizes[slot] % 3 != 0) {
                return false;
            }
            for (int i = slot * MAX_NUMBERS; i < slot * MAX_NUMBERS + sizes[slot]; i += 3) {
                boolean such = colony.hasWidow(numbers[i]) && isStep(numbers[i + 1]);
                if (!such || colony.spotOf(numbers[i + 2]) == NONE) {
                    return false;
                }
            }
            return true;
        }

        /** Whether a story is as a row tells, of which {@code tellsOf} holds. */
        private boolean fits(int slot, Colony colony, Story story) {
            for (int i = slot * MAX_NUMBERS; i < slot * MAX_NUMBERS + sizes[slot]; i += 3) {
                int seen = story.spotAt((int) numbers[i], (int) numbers[i + 1]);
                if (seen != colony.spotOf(numbers[i + 2])) {
                    return false;
                }
            }
            return true;
        }
    }
}
