import java.math.BigInteger;
import java.util.ArrayDeque;
import java.util.ArrayList;
import java.util.Arrays;
import java.util.HashMap;
import java.util.HashSet;
import java.util.List;
import java.util.Map;
import java.util.Set;
import java.util.TreeMap;
import java.util.TreeSet;

/**
 * The document told again in the plainest way, with the Java library and without a thought for room or time: cells
 * are told cells, pegs are pairs of them, all is walked anew for each question. ModelTest sets it beside WidowRoads.
 */
final class Model {
    private static final class Widow implements Cloneable {
        int cell;
        int faces;
        int steps;
        int year;
        List<Integer> grief = new ArrayList<>();

        Widow copy() {
            Widow w = new Widow();
            w.cell = cell;
            w.faces = faces;
            w.steps = steps;
            w.year = year;
            w.grief = new ArrayList<>(grief);
            return w;
        }
    }

    private static final class Told {
        int lines;
        int years;
        int law;
        int odds;
        int wide;
        int high;
        List<Integer> creeks = new ArrayList<>();
        List<Integer> houses = new ArrayList<>();
        List<Widow> widows = new ArrayList<>();
        List<int[]> acts = new ArrayList<>();

        Told copy() {
            Told t = new Told();
            t.lines = lines;
            t.years = years;
            t.law = law;
            t.odds = odds;
            t.wide = wide;
            t.high = high;
            t.creeks = new ArrayList<>(creeks);
            t.houses = new ArrayList<>(houses);
            for (Widow w : widows) {
                t.widows.add(w.copy());
            }
            t.acts = new ArrayList<>(acts);
            return t;
        }

        boolean cell(long c) {
            return c >= 0 && c / 10 < wide && c % 10 < high;
        }

        List<Integer> cells() {
            List<Integer> all = new ArrayList<>();
            for (int x = 0; x < wide; x++) {
                for (int y = 0; y < high; y++) {
                    all.add(10 * x + y);
                }
            }
            return all;
        }

        Set<Integer> creeksNow() {
            Set<Integer> now = new HashSet<>(creeks);
            for (int[] act : acts) {
                if (act[0] == 0) {
                    now.remove(act[1]);
                }
            }
            return now;
        }

        Set<Integer> keptIn() {
            Set<Integer> in = new HashSet<>();
            for (int[] act : acts) {
                if (act[0] == 1) {
                    in.add(act[1]);
                }
            }
            return in;
        }

        /** Cells towards D 0 .. 3; null beyond the colony. */
        Integer next(int cell, int d) {
            int x = cell / 10 + (d == 1 ? 1 : d == 3 ? -1 : 0);
            int y = cell % 10 + (d == 2 ? 1 : d == 0 ? -1 : 0);
            return x < 0 || y < 0 || x >= wide || y >= high ? null : (Integer) (10 * x + y);
        }
    }

    private static final class Walk {
        List<Integer> path = new ArrayList<>();
        int stands;
        int moves;
    }

    private static final class Year {
        Set<Integer> road = new TreeSet<>();
        Set<List<Integer>> pegs = new HashSet<>();
        List<Integer> houses = new ArrayList<>();

        Year copy() {
            Year y = new Year();
            y.road.addAll(road);
            y.pegs.addAll(pegs);
            y.houses.addAll(houses);
            return y;
        }

        Set<Integer> joined(int cell) {
            Set<Integer> all = new TreeSet<>();
            for (List<Integer> peg : pegs) {
                if (peg.get(0) == cell) {
                    all.add(peg.get(1));
                }
                if (peg.get(1) == cell) {
                    all.add(peg.get(0));
                }
            }
            return all;
        }

        Map<Integer, Integer> far(int from) {
            Map<Integer, Integer> far = new TreeMap<>();
            ArrayDeque<Integer> queue = new ArrayDeque<>();
            far.put(from, 0);
            queue.add(from);
            while (!queue.isEmpty()) {
                int cell = queue.remove();
                for (int next : joined(cell)) {
                    if (!far.containsKey(next)) {
                        far.put(next, far.get(cell) + 1);
                        queue.add(next);
                    }
                }
            }
            return far;
        }

        int nets() {
            Set<Set<Integer>> nets = new HashSet<>();
            for (int cell : road) {
                nets.add(far(cell).keySet());
            }
            return nets.size();
        }
    }

    private static final class Tale {
        List<Year> years = new ArrayList<>();
        Map<Integer, Walk> walks = new HashMap<>();
        int[] moved;

        Year last() {
            return years.get(years.size() - 1);
        }

        Integer at(int widow, int step) {
            Walk walk = walks.get(widow);
            return walk == null || step >= walk.path.size() ? null : walk.path.get(step);
        }

        Set<Integer> in(int widow) {
            Walk walk = walks.get(widow);
            return walk == null ? new TreeSet<>() : new TreeSet<>(walk.path);
        }

        int allMoved() {
            return Arrays.stream(moved).sum();
        }
    }

    private byte[] tape = new byte[0];
    private Told told = new Told();
    private final Told[] images = new Told[3];
    private final long[][] rows = new long[4][];
    private final int[] widths = new int[4];
    private int fault;
    private int place = -1;
    private Tale tale;
    private final Map<Integer, Tale> tales = new HashMap<>();

    private void changed() {
        tale = null;
        tales.clear();
    }

    private Tale now() {
        if (tale == null) {
            tale = tell(told);
        }
        return tale;
    }

    /** As when widows of a set alone walk; those kept in do not. */
    private Tale set(int bits) {
        return tales.computeIfAbsent(bits, b -> {
            Told t = told.copy();
            for (int w = 0; w < t.widows.size(); w++) {
                if ((b >> w & 1) == 0) {
                    t.acts.add(new int[] {1, w});
                }
            }
            return tell(t);
        });
    }

    private int everyone() {
        return (1 << told.widows.size()) - 1;
    }

    // ---- term II and III

    private static Tale tell(Told t) {
        Tale tale = new Tale();
        tale.moved = new int[t.houses.size()];
        Year year = new Year();
        year.houses.addAll(t.houses);
        tale.years.add(year);
        for (int y = 0; y < t.years; y++) {
            year = year.copy();
            for (int w = 0; w < t.widows.size(); w++) {
                if (t.widows.get(w).year == y && !t.keptIn().contains(w)) {
                    walk(t, tale, year, w);
                }
            }
            tale.years.add(year);
        }
        return tale;
    }

    private static void walk(Told t, Tale tale, Year year, int number) {
        Widow w = t.widows.get(number);
        Set<Integer> creeks = t.creeksNow();
        Set<Integer> before = new HashSet<>(year.road);
        Walk walk = new Walk();
        walk.path.add(w.cell);
        int here = w.cell;
        int d = w.faces;
        for (int step = 0; step < w.steps; step++) {
            d = (d + w.grief.get(step % w.grief.size())) % 4;
            Set<Integer> free = new HashSet<>();
            Set<Integer> freeByLaw = new HashSet<>();
            for (int side = 0; side < 4; side++) {
                Integer next = t.next(here, side);
                if (next != null && !creeks.contains(next)) {
                    free.add(next);
                    boolean shunned = t.law == 1 && before.contains(next) || t.law == 2 && walk.path.contains(next);
                    if (!shunned) {
                        freeByLaw.add(next);
                    }
                }
            }
            Set<Integer> open = freeByLaw.isEmpty() ? free : freeByLaw;
            boolean went = false;
            for (int turn = 0; turn < 4 && !went; turn++) {
                Integer next = t.next(here, (d + turn) % 4);
                if (next != null && open.contains(next)) {
                    went = true;
                    d = (d + turn) % 4;
                    year.pegs.add(List.of(Math.min(here, next), Math.max(here, next)));
                    here = next;
                }
            }
            walk.path.add(here);
            if (!went) {
                walk.stands++;
            } else if (t.law == 3 && before.contains(here)) {
                break;
            }
        }
        year.road.addAll(walk.path);
        for (int h = 0; h < year.houses.size(); h++) {
            if (walk.path.contains(year.houses.get(h))) {
                int to = -1;
                for (int cell : t.cells()) {
                    if (to < 0 && !creeks.contains(cell) && !year.houses.contains(cell) && !year.road.contains(cell)) {
                        to = cell;
                    }
                }
                year.houses.set(h, to);
                tale.moved[h]++;
                walk.moves++;
            }
        }
        tale.walks.put(number, walk);
    }

    // ---- promises 2 to 8

    public int feed(int a, int b, int c, int d, int e) {
        if (tape.length + 20 > 900) {
            return -1;
        }
        java.nio.ByteBuffer buffer = java.nio.ByteBuffer.allocate(tape.length + 20);
        buffer.put(tape).putInt(a).putInt(b).putInt(c).putInt(d).putInt(e);
        tape = buffer.array();
        return tape.length;
    }

    public int end(int n) {
        if (n < 0 || n > tape.length) {
            return -1;
        }
        tape = Arrays.copyOf(tape, n);
        return n;
    }

    private static final class Fault extends Exception {
        private static final long serialVersionUID = 1L;
        final int which;
        final int place;

        Fault(int which, int place) {
            this.which = which;
            this.place = place;
        }
    }

    private List<String> tokens;
    private List<Integer> places;
    private int token;

    private void split() {
        tokens = new ArrayList<>();
        places = new ArrayList<>();
        token = 0;
        String text = new String(tape, java.nio.charset.StandardCharsets.ISO_8859_1);
        java.util.regex.Matcher m = java.util.regex.Pattern.compile("[a-z]+|[0-9]+|[^ \n]", java.util.regex.Pattern.DOTALL)
                .matcher(text);
        while (m.find()) {
            tokens.add(m.group());
            places.add(m.start());
        }
        tokens.add("");
        places.add(text.length());
    }

    private String peek() {
        return tokens.get(token);
    }

    private Fault broken(int which) {
        return new Fault(which, places.get(token));
    }

    private void word(String w) throws Fault {
        if (!peek().equals(w)) {
            throw broken(1);
        }
        token++;
    }

    private int number(int low, int high) throws Fault {
        if (!peek().matches("[0-9]+")) {
            throw broken(1);
        }
        BigInteger n = new BigInteger(peek());
        if (n.compareTo(BigInteger.valueOf(low)) < 0 || n.compareTo(BigInteger.valueOf(high)) > 0) {
            throw broken(2);
        }
        token++;
        return n.intValue();
    }

    private int cell(Told t, Set<Integer> taken) throws Fault {
        int x = number(0, t.wide - 1);
        int y = number(0, t.high - 1);
        if (taken.contains(10 * x + y)) {
            token--;
            throw broken(2);
        }
        return 10 * x + y;
    }

    private Told parse() throws Fault {
        Told t = new Told();
        split();
        while (!peek().isEmpty()) {
            if (t.lines == 0) {
                word("colony");
                word("years");
                t.years = number(1, 12);
                word("law");
                t.law = number(0, 3);
                word("odds");
                t.odds = number(0, 10);
                word("wide");
                t.wide = number(2, 8);
                word("high");
                t.high = number(2, 8);
            } else {
                line(t);
            }
            word(";");
            t.lines++;
        }
        return t;
    }

    private void line(Told t) throws Fault {
        switch (peek()) {
            case "creek":
                if (t.creeks.size() == 12) {
                    throw broken(3);
                }
                token++;
                t.creeks.add(cell(t, new HashSet<>(t.creeks)));
                break;
            case "house":
                if (t.houses.size() == 6) {
                    throw broken(3);
                }
                token++;
                Set<Integer> taken = new HashSet<>(t.creeks);
                taken.addAll(t.houses);
                t.houses.add(cell(t, taken));
                break;
            case "widow":
                if (t.widows.size() == 7) {
                    throw broken(3);
                }
                token++;
                t.widows.add(widow(t));
                break;
            default:
                throw broken(1);
        }
    }

    private Widow widow(Told t) throws Fault {
        Widow w = new Widow();
        w.cell = cell(t, new HashSet<>(t.creeks));
        word("faces");
        w.faces = number(0, 3);
        word("steps");
        w.steps = number(1, 40);
        word("at");
        w.year = number(0, 11);
        word("grief");
        List<String> kinds = List.of("on", "right", "back", "left");
        while (kinds.contains(peek())) {
            if (w.grief.size() == 8) {
                throw broken(3);
            }
            w.grief.add(kinds.indexOf(peek()));
            token++;
        }
        if (w.grief.isEmpty()) {
            throw broken(1);
        }
        return w;
    }

    public int colony() {
        try {
            Told t = parse();
            told = t;
            tape = new byte[0];
            fault = 0;
            place = -1;
            changed();
            return t.lines;
        } catch (Fault f) {
            fault = f.which;
            place = f.place;
            return -4;
        }
    }

    public int fault(int what) {
        return what == 0 ? fault : what == 1 ? place : -1;
    }

    public int creek(int cell) {
        return !told.cell(cell) ? -2 : told.creeksNow().contains(cell) ? 1 : 0;
    }

    private boolean noWidow(long w) {
        return w < 0 || w >= told.widows.size();
    }

    private boolean noYear(int year) {
        return told.lines == 0 || year < 0 || year > told.years;
    }

    public int widow(int widow, int what) {
        if (noWidow(widow) || what < 0 || what > 4) {
            return -2;
        }
        Widow w = told.widows.get(widow);
        return List.of(w.cell, w.faces, w.steps, w.year, w.grief.size()).get(what);
    }

    public int grief(int widow, int i) {
        if (noWidow(widow) || i < 0) {
            return -2;
        }
        List<Integer> grief = told.widows.get(widow).grief;
        return i < grief.size() ? grief.get(i) : -1;
    }

    // ---- promises 9 to 17

    public int at(int widow, int step) {
        if (noWidow(widow) || step < 0 || step > 40) {
            return -2;
        }
        Integer cell = now().at(widow, step);
        return cell == null ? -1 : cell;
    }

    public int steps(int widow) {
        return noWidow(widow) ? -2 : now().walks.containsKey(widow) ? now().walks.get(widow).path.size() - 1 : -1;
    }

    public int stands(int widow) {
        return noWidow(widow) ? -2 : now().walks.containsKey(widow) ? now().walks.get(widow).stands : -1;
    }

    public int ground(int widow) {
        return noWidow(widow) ? -2 : now().walks.containsKey(widow) ? now().in(widow).size() : -1;
    }

    public int loop(int widow) {
        if (noWidow(widow)) {
            return -2;
        }
        boolean away = false;
        for (int step = 0; now().at(widow, step) != null; step++) {
            boolean home = now().at(widow, step).equals(now().at(widow, 0));
            if (home && away) {
                return step;
            }
            away = !home;
        }
        return -1;
    }

    public int haunt(int widow) {
        if (noWidow(widow)) {
            return -2;
        }
        int best = -1;
        for (int cell : now().in(widow)) {
            if (best < 0 || visits(widow, cell) > visits(widow, best)) {
                best = cell;
            }
        }
        return best;
    }

    public int evening(int year) {
        if (noYear(year) || year == told.years) {
            return -2;
        }
        int bits = 0;
        for (int w : now().walks.keySet()) {
            bits += told.widows.get(w).year == year ? 1 << w : 0;
        }
        return bits;
    }

    public int visits(int widow, int cell) {
        if (noWidow(widow) || !told.cell(cell)) {
            return -2;
        }
        Walk walk = now().walks.get(widow);
        return walk == null ? 0 : java.util.Collections.frequency(walk.path, cell);
    }

    /** -1: there is none. */
    private int straightBetween(int from, int to) {
        Set<Integer> creeks = told.creeksNow();
        Year all = new Year();
        for (int cell : told.cells()) {
            for (int d = 1; d <= 2; d++) {
                Integer next = told.next(cell, d);
                if (next != null && !creeks.contains(cell) && !creeks.contains(next)) {
                    all.pegs.add(List.of(cell, next));
                }
            }
        }
        if (creeks.contains(from) || creeks.contains(to)) {
            return -1;
        }
        return all.far(from).getOrDefault(to, -1);
    }

    public int straight(int widow) {
        if (noWidow(widow)) {
            return -2;
        }
        Walk walk = now().walks.get(widow);
        if (walk == null) {
            return -1;
        }
        int far = straightBetween(walk.path.get(0), walk.path.get(walk.path.size() - 1));
        return far < 0 ? -3 : far;
    }

    // ---- promises 18 to 35

    private Year year(int year) {
        return now().years.get(year);
    }

    public int road(int cell, int year) {
        return noYear(year) || !told.cell(cell) ? -2 : year(year).road.contains(cell) ? 1 : 0;
    }

    public int roads(int year) {
        return noYear(year) ? -2 : year(year).road.size();
    }

    public int pegs(int year) {
        return noYear(year) ? -2 : year(year).pegs.size();
    }

    public int joins(int cell, int year) {
        if (noYear(year) || !told.cell(cell)) {
            return -2;
        }
        int bits = 0;
        for (int d = 0; d < 4; d++) {
            Integer next = told.next(cell, d);
            bits += next != null && year(year).joined(cell).contains(next) ? 1 << d : 0;
        }
        return bits;
    }

    public int corners(int n, int year) {
        if (n < 0 || n > 4 || noYear(year)) {
            return -2;
        }
        return (int) year(year).road.stream().filter(c -> year(year).joined(c).size() == n).count();
    }

    public int nets(int year) {
        return noYear(year) ? -2 : year(year).nets();
    }

    public int missing(int year) {
        if (noYear(year)) {
            return -2;
        }
        Year more = year(year).copy();
        int added = 0;
        for (int cell : more.road) {
            for (int d = 0; d < 4; d++) {
                Integer next = told.next(cell, d);
                if (next != null && more.road.contains(next) && !more.far(cell).containsKey(next)) {
                    more.pegs.add(List.of(cell, next));
                    added++;
                }
            }
        }
        return more.nets() > 1 ? -1 : added;
    }

    /** Takes pegs one by one, while nets stay joined. */
    public int rings(int year) {
        if (noYear(year)) {
            return -2;
        }
        Year less = year(year).copy();
        int gone = 0;
        for (List<Integer> peg : year(year).pegs) {
            less.pegs.remove(peg);
            if (less.far(peg.get(0)).containsKey(peg.get(1))) {
                gone++;
            } else {
                less.pegs.add(peg);
            }
        }
        return gone;
    }

    public int bridges(int year) {
        if (noYear(year)) {
            return -2;
        }
        int many = 0;
        for (List<Integer> peg : year(year).pegs) {
            Year less = year(year).copy();
            less.pegs.remove(peg);
            many += less.nets() > year(year).nets() ? 1 : 0;
        }
        return many;
    }

    public int net(int cell, int year) {
        if (noYear(year) || !told.cell(cell)) {
            return -2;
        }
        return year(year).road.contains(cell) ? year(year).far(cell).size() : 0;
    }

    public int way(int cell, int other, int year) {
        if (noYear(year) || !told.cell(cell) || !told.cell(other)) {
            return -2;
        }
        return year(year).road.contains(cell) ? year(year).far(cell).getOrDefault(other, -1) : -1;
    }

    public int beeline(int cell, int other) {
        return !told.cell(cell) || !told.cell(other) ? -2 : straightBetween(cell, other);
    }

    public int farthest(int cell, int year) {
        if (noYear(year) || !told.cell(cell)) {
            return -2;
        }
        if (!year(year).road.contains(cell)) {
            return -1;
        }
        Map<Integer, Integer> far = year(year).far(cell);
        int best = cell;
        for (int other : far.keySet()) {
            if (far.get(other) > far.get(best)) {
                best = other;
            }
        }
        return best;
    }

    public int crossing() {
        if (told.lines == 0) {
            return -2;
        }
        int best = -1;
        for (int cell : told.cells()) {
            int many = Integer.bitCount(walked(cell));
            if (many > 0 && (best < 0 || many > Integer.bitCount(walked(best)))) {
                best = cell;
            }
        }
        return best;
    }

    public int shared(int widow, int other) {
        if (noWidow(widow) || noWidow(other)) {
            return -2;
        }
        Set<Integer> both = now().in(widow);
        both.retainAll(now().in(other));
        return both.size();
    }

    public int walked(int cell) {
        if (!told.cell(cell)) {
            return -2;
        }
        int bits = 0;
        for (int w = 0; w < told.widows.size(); w++) {
            bits += now().in(w).contains(cell) ? 1 << w : 0;
        }
        return bits;
    }

    public int first(int cell) {
        if (!told.cell(cell)) {
            return -2;
        }
        for (int y = 0; y <= told.years; y++) {
            if (year(y).road.contains(cell)) {
                return y;
            }
        }
        return -1;
    }

    public int line(int year) {
        if (noYear(year)) {
            return -2;
        }
        int longest = 0;
        for (int start : told.cells()) {
            for (int d = 1; d <= 2; d++) {
                int length = 0;
                Integer cell = start;
                Integer next = told.next(cell, d);
                while (next != null && year(year).joined(cell).contains(next)) {
                    length++;
                    cell = next;
                    next = told.next(cell, d);
                }
                longest = Math.max(longest, length);
            }
        }
        return longest;
    }

    // ---- promises 36 to 43

    private boolean noHouse(int house) {
        return house < 0 || house >= told.houses.size();
    }

    public int house(int house, int year) {
        return noHouse(house) || noYear(year) ? -2 : year(year).houses.get(house);
    }

    public int moved(int house) {
        return noHouse(house) ? -2 : now().moved[house];
    }

    public int moves(int widow) {
        return noWidow(widow) ? -2 : now().walks.containsKey(widow) ? now().walks.get(widow).moves : -1;
    }

    public int served(int year) {
        if (noYear(year)) {
            return -2;
        }
        int many = 0;
        for (int house : year(year).houses) {
            boolean beside = false;
            for (int d = 0; d < 4 && house >= 0; d++) {
                Integer next = told.next(house, d);
                beside |= next != null && year(year).road.contains(next);
            }
            many += beside ? 1 : 0;
        }
        return many;
    }

    public int cover() {
        return told.lines == 0 ? -2 : Integer.bitCount(covers());
    }

    public int covers() {
        if (told.lines == 0) {
            return -2;
        }
        for (int size = 0; size <= told.widows.size(); size++) {
            for (int set = 0; set <= everyone(); set++) {
                Set<Integer> in = new HashSet<>();
                for (int w = 0; w < told.widows.size(); w++) {
                    if ((set >> w & 1) == 1) {
                        in.addAll(now().in(w));
                    }
                }
                if (Integer.bitCount(set) == size && in.containsAll(now().last().road)) {
                    return set;
                }
            }
        }
        throw new IllegalStateException("no cover");
    }

    public int blame() {
        if (told.lines == 0) {
            return -2;
        }
        int best = -1;
        int fewest = now().allMoved();
        for (int w = 0; w < told.widows.size(); w++) {
            int moved = set(everyone() & ~(1 << w)).allMoved();
            if (moved < fewest) {
                fewest = moved;
                best = w;
            }
        }
        return best;
    }

    public int ford() {
        if (told.lines == 0) {
            return -2;
        }
        int best = -1;
        int most = now().last().pegs.size();
        for (int c = 0; c < told.creeks.size(); c++) {
            Told t = told.copy();
            t.acts.add(new int[] {0, t.creeks.get(c)});
            int pegs = tell(t).last().pegs.size();
            if (pegs > most) {
                most = pegs;
                best = c;
            }
        }
        return best;
    }

    // ---- promises 44 to 50

    private int refusal(int slot) {
        if (told.lines == 0 || slot < 0 || slot > 3) {
            return -2;
        }
        long[] row = rows[slot];
        if (row == null) {
            return -6;
        }
        if (row.length % 3 != 0) {
            return -2;
        }
        for (int i = 0; i < row.length; i += 3) {
            if (noWidow(row[i]) || row[i + 1] < 0 || row[i + 1] > 40 || !told.cell(row[i + 2])) {
                return -2;
            }
        }
        return 0;
    }

    private boolean fits(int slot, Tale tale) {
        for (int i = 0; i < rows[slot].length; i += 3) {
            Integer cell = tale.at((int) rows[slot][i], (int) rows[slot][i + 1]);
            if (cell == null || cell != rows[slot][i + 2]) {
                return false;
            }
        }
        return true;
    }

    private Tale facing(int widow, int d) {
        Told t = told.copy();
        t.widows.get(widow).faces = d;
        return tell(t);
    }

    public int faced(int slot, int widow) {
        int refusal = noWidow(widow) ? -2 : refusal(slot);
        for (int d = 0; d < 4 && refusal >= 0; d++) {
            refusal += fits(slot, facing(widow, d)) ? 1 << d : 0;
        }
        return refusal;
    }

    public int griefs(int slot, int widow) {
        int refusal = noWidow(widow) ? -2 : refusal(slot);
        for (int d = 0; d < 4 && refusal >= 0; d++) {
            Told t = told.copy();
            t.widows.get(widow).grief = new ArrayList<>(List.of(d));
            refusal += fits(slot, tell(t)) ? 1 << d : 0;
        }
        return refusal;
    }

    private int atWorst(int faced, int widow, int step) {
        Map<Integer, Integer> groups = new HashMap<>();
        for (int d = 0; d < 4; d++) {
            if ((faced >> d & 1) == 1) {
                Integer cell = facing(widow, d).at(widow, step);
                groups.merge(cell == null ? -1 : cell, 1, Integer::sum);
            }
        }
        return groups.values().stream().mapToInt(i -> i).max().orElse(0);
    }

    public int ask(int slot, int widow) {
        int faced = faced(slot, widow);
        if (faced < 0) {
            return faced;
        }
        int least = leaves(slot, widow);
        for (int step = 0; step <= 40; step++) {
            int worst = atWorst(faced, widow, step);
            if (worst == least && worst < Integer.bitCount(faced)) {
                return step;
            }
        }
        return -1;
    }

    public int leaves(int slot, int widow) {
        int faced = faced(slot, widow);
        if (faced < 0) {
            return faced;
        }
        int least = Integer.bitCount(faced);
        for (int step = 0; step <= 40; step++) {
            least = Math.min(least, atWorst(faced, widow, step));
        }
        return least;
    }

    private Tale byLaw(int law) {
        Told t = told.copy();
        t.law = law;
        return tell(t);
    }

    public int laws(int slot) {
        int refusal = refusal(slot);
        for (int law = 0; law < 4 && refusal >= 0; law++) {
            refusal += fits(slot, byLaw(law)) ? 1 << law : 0;
        }
        return refusal;
    }

    public int by(int law) {
        return told.lines == 0 || law < 0 || law > 3 ? -2 : byLaw(law).last().pegs.size();
    }

    public int law() {
        if (told.lines == 0) {
            return -2;
        }
        int best = 0;
        for (int law = 1; law < 4; law++) {
            best = by(law) > by(best) ? law : best;
        }
        return best;
    }

    // ---- promises 51 to 56

    public int worth(int set) {
        return told.lines == 0 || set < 0 || set > everyone() ? -2 : set(set).last().pegs.size();
    }

    private static long[] lowest(BigInteger above, BigInteger below) {
        BigInteger gcd = above.gcd(below);
        return new long[] {above.divide(gcd).longValueExact(), below.divide(gcd).longValueExact()};
    }

    private long orders;
    private long more;

    /** All orders, one by one. */
    private void orders(List<Integer> left, int ahead, int widow) {
        if (left.isEmpty()) {
            orders++;
            return;
        }
        for (Integer w : left) {
            List<Integer> rest = new ArrayList<>(left);
            rest.remove(w);
            if (w == widow) {
                long count = 1;
                for (int i = 2; i <= rest.size(); i++) {
                    count *= i;
                }
                orders += count;
                more += count * (worth(ahead | 1 << w) - worth(ahead));
            } else {
                orders(rest, ahead | 1 << w, widow);
            }
        }
    }

    public int share(int widow, int what) {
        if (noWidow(widow) || what < 0 || what > 1) {
            return -1_000_000;
        }
        orders = 0;
        more = 0;
        List<Integer> all = new ArrayList<>();
        for (int w = 0; w < told.widows.size(); w++) {
            all.add(w);
        }
        orders(all, 0, widow);
        return (int) lowest(BigInteger.valueOf(more), BigInteger.valueOf(orders))[what];
    }

    public int gets(int widow, int other, int x, int y) {
        if (noWidow(widow) || noWidow(other) || widow == other || x < 0 || x > 1 || y < 0 || y > 1) {
            return -1_000;
        }
        Tale t = set(everyone() & ~(x << widow) & ~(y << other));
        return t.walks.containsKey(widow) ? t.in(widow).size() - 2 * t.walks.get(widow).moves : 0;
    }

    public int rests(int widow, int other) {
        if (noWidow(widow) || noWidow(other) || widow == other) {
            return -2;
        }
        int bits = 0;
        int[][] pairs = {{0, 0}, {1, 0}, {0, 1}, {1, 1}};
        for (int i = 0; i < 4; i++) {
            int x = pairs[i][0];
            int y = pairs[i][1];
            boolean firstGains = gets(widow, other, 1 - x, y) > gets(widow, other, x, y);
            boolean otherGains = gets(other, widow, 1 - y, x) > gets(other, widow, y, x);
            bits += firstGains || otherGains ? 0 : 1 << i;
        }
        return bits;
    }

    private BigInteger weight(int set) {
        BigInteger product = BigInteger.ONE;
        for (int w = 0; w < told.widows.size(); w++) {
            product = product.multiply(BigInteger.valueOf((set >> w & 1) == 1 ? 10 - told.odds : told.odds));
        }
        return product;
    }

    public long chance(int cell, int what) {
        if (!told.cell(cell) || what < 0 || what > 1) {
            return -2;
        }
        BigInteger sum = BigInteger.ZERO;
        for (int set = 0; set <= everyone(); set++) {
            sum = set(set).last().road.contains(cell) ? sum.add(weight(set)) : sum;
        }
        return lowest(sum, BigInteger.TEN.pow(told.widows.size()))[what];
    }

    public long mean(int what) {
        if (told.lines == 0 || what < 0 || what > 1) {
            return -2;
        }
        BigInteger sum = BigInteger.ZERO;
        for (int set = 0; set <= everyone(); set++) {
            sum = sum.add(weight(set).multiply(BigInteger.valueOf(worth(set))));
        }
        return lowest(sum, BigInteger.TEN.pow(told.widows.size()))[what];
    }

    // ---- promises 57 to 69

    private int act(int kind, int which) {
        if (told.acts.size() == 30) {
            return -5;
        }
        told.acts.add(new int[] {kind, which});
        changed();
        return now().last().pegs.size();
    }

    public int bridge(int cell) {
        return told.cell(cell) ? act(0, cell) : -2;
    }

    public int keeps(int widow) {
        return noWidow(widow) ? -2 : act(1, widow);
    }

    public int undo() {
        if (told.lines == 0) {
            return -2;
        }
        if (told.acts.isEmpty()) {
            return -5;
        }
        told.acts.remove(told.acts.size() - 1);
        changed();
        return told.acts.size();
    }

    public int anew() {
        if (told.lines == 0) {
            return -2;
        }
        int were = told.acts.size();
        told.acts.clear();
        changed();
        return were;
    }

    private int fog(long seed) {
        BigInteger x = BigInteger.valueOf(seed);
        int fog = 0;
        for (int w = 0; w < told.widows.size(); w++) {
            x = x.multiply(BigInteger.valueOf(1103515245)).add(BigInteger.valueOf(12345)).mod(BigInteger.TWO.pow(31));
            fog += x.divide(BigInteger.valueOf(65536)).mod(BigInteger.TEN).intValue() < told.odds ? 1 << w : 0;
        }
        return fog;
    }

    public int drawn(int seed, int what) {
        if (told.lines == 0 || seed < 0 || seed > 2_000_000_000 || what < 0 || what > 1) {
            return -2;
        }
        return what == 0 ? fog(seed) : set(everyone() & ~fog(seed)).last().pegs.size();
    }

    public int luck(int seed, int n, int cell) {
        if (!told.cell(cell) || seed < 0 || seed > 2_000_000_000 || n < 1 || n > 20) {
            return -2;
        }
        int many = 0;
        for (int i = 0; i < n; i++) {
            many += set(everyone() & ~fog((long) seed + i)).last().road.contains(cell) ? 1 : 0;
        }
        return many;
    }

    public int rate(int widow, int n) {
        if (noWidow(widow) || n < 1 || n > 40) {
            return -2;
        }
        if (!told.acts.isEmpty()) {
            return -5;
        }
        int were = told.widows.get(widow).steps;
        told.widows.get(widow).steps = n;
        changed();
        return were;
    }

    public int count(int what) {
        int slots = 0;
        for (long[] row : rows) {
            slots += row == null ? 0 : 1;
        }
        List<Integer> all = List.of(told.years, told.law, told.odds, told.wide, told.high, told.creeks.size(),
                told.houses.size(), told.widows.size(), told.acts.size(), told.lines);
        if (what == 10) {
            return tape.length;
        }
        return what == 11 ? slots : what < 0 || what > 11 ? -1 : all.get(what);
    }

    public int image(int k) {
        if (k < 0 || k > 2) {
            return -2;
        }
        images[k] = told.copy();
        return 0;
    }

    public int back(int k) {
        if (k < 0 || k > 2) {
            return -2;
        }
        if (images[k] == null) {
            return -6;
        }
        told = images[k].copy();
        changed();
        return 0;
    }

    public int row(int slot, int width, int n) {
        if (slot < 0 || slot > 3 || width < 0 || width > 3 || n > 60) {
            return -2;
        }
        if (n < 0) {
            return -3;
        }
        rows[slot] = new long[n];
        widths[slot] = width;
        return 0;
    }

    public int write(int slot, int i, long v) {
        if (slot < 0 || slot > 3) {
            return -2;
        }
        if (rows[slot] == null) {
            return -6;
        }
        if (i < 0 || i >= rows[slot].length) {
            return -7;
        }
        BigInteger turn = BigInteger.TWO.pow(8 << widths[slot]);
        BigInteger cut = BigInteger.valueOf(v).mod(turn);
        rows[slot][i] = cut.longValue();
        return 0;
    }

    public int paste(int slot, int i, int to, int k, int n) {
        if (slot < 0 || slot > 3 || to < 0 || to > 3) {
            return -2;
        }
        if (rows[slot] == null || rows[to] == null) {
            return -6;
        }
        if (widths[slot] != widths[to]) {
            return -8;
        }
        if (i < 0 || k < 0 || n < 0 || (long) i + n > rows[slot].length || (long) k + n > rows[to].length) {
            return -7;
        }
        long[] part = Arrays.copyOfRange(rows[slot], i, i + n);
        System.arraycopy(part, 0, rows[to], k, n);
        return 0;
    }
}
