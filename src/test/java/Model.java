import java.util.ArrayList;
import java.util.Arrays;
import java.util.HashMap;
import java.util.HashSet;
import java.util.LinkedList;
import java.util.List;
import java.util.Map;
import java.util.NoSuchElementException;
import java.util.Set;
import java.util.TreeMap;
import java.util.function.Predicate;
import java.util.regex.Matcher;
import java.util.regex.Pattern;

/** The document told a second time, slowly and with the whole library: what SeenToMove is compared with. */
public final class Model {
    static final List<String> SIDES = List.of("east", "south", "west", "north");
    static final Set<String> TOLD = new HashSet<>(Arrays.asList((
        "east south west north field hedge owner land figure looker turns walks shuts opens faces hour "
        + "or and not seen stuck moved of by gone every number").split(" ")));

    record Cell(int x, int y) {
        Cell to(int side) {
            return new Cell(x + (side == 0 ? 1 : side == 2 ? -1 : 0), y + (side == 1 ? 1 : side == 3 ? -1 : 0));
        }
    }

    static final class Fig {
        String name;
        int owner;
        Cell at;
        Cell first;
        int side;
        int every;
        int gone;

        Fig copy() {
            Fig f = new Fig();
            f.name = name;
            f.owner = owner;
            f.at = at;
            f.first = first;
            f.side = side;
            f.every = every;
            f.gone = gone;
            return f;
        }
    }

    static final class Look {
        String name;
        Cell at;
        int side;
        boolean shut;
        Set<Integer> hours = new HashSet<>();

        Look copy() {
            Look l = new Look();
            l.name = name;
            l.at = at;
            l.side = side;
            l.shut = shut;
            l.hours = hours;
            return l;
        }
    }

    static final class World {
        int wide = 6;
        int high = 6;
        int hour;
        List<String> owners = new ArrayList<>();
        List<Fig> figs = new ArrayList<>();
        List<Look> looks = new ArrayList<>();
        Set<Cell> hedges = new HashSet<>();
        Map<Integer, Integer> rows = new HashMap<>();
        Map<Cell, Integer> land = new HashMap<>();
        Map<Integer, Integer> landAtFirst = new HashMap<>();

        World copy() {
            World w = new World();
            w.wide = wide;
            w.high = high;
            w.hour = hour;
            w.owners.addAll(owners);
            for (Fig f : figs) {
                w.figs.add(f.copy());
            }
            for (Look l : looks) {
                w.looks.add(l.copy());
            }
            w.hedges.addAll(hedges);
            w.rows.putAll(rows);
            w.land.putAll(land);
            w.landAtFirst.putAll(landAtFirst);
            return w;
        }

        boolean inside(Cell c) {
            return c.x >= 0 && c.y >= 0 && c.x < wide && c.y < high;
        }

        boolean person(Cell c) {
            return figs.stream().anyMatch(f -> f.at.equals(c)) || looks.stream().anyMatch(l -> l.at.equals(c));
        }

        boolean free(Cell c) {
            return inside(c) && !hedges.contains(c) && !person(c);
        }

        void begin() {
            for (int y = 0; y < high; y++) {
                for (int x = 0; x < wide; x++) {
                    if (rows.containsKey(y)) {
                        land.put(new Cell(x, y), rows.get(y));
                    }
                }
            }
            for (Fig f : figs) {
                land.put(f.at, f.owner);
            }
            for (int o = 0; o < owners.size(); o++) {
                landAtFirst.put(o, landOf(o));
            }
        }

        int landOf(int o) {
            return (int) land.values().stream().filter(v -> v == o).count();
        }

        boolean looking(Look l) {
            return !l.shut && l.hours.contains(hour % 24);
        }

        Set<Cell> line(Cell from, int side) {
            Set<Cell> cells = new HashSet<>();
            Cell c = from;
            while (inside(c) && !hedges.contains(c)) {
                cells.add(c);
                c = c.to(side);
            }
            return cells;
        }

        Set<Integer> couldSee(int l, int side) {
            Set<Cell> cells = line(looks.get(l).at, side);
            Set<Integer> seen = new HashSet<>();
            for (int f = 0; f < figs.size(); f++) {
                if (cells.contains(figs.get(f).at)) {
                    seen.add(f);
                }
            }
            return seen;
        }

        Set<Integer> sees(int l) {
            return looking(looks.get(l)) ? couldSee(l, looks.get(l).side) : new HashSet<>();
        }

        Set<Integer> seers(int f) {
            Set<Integer> who = new HashSet<>();
            for (int l = 0; l < looks.size(); l++) {
                if (sees(l).contains(f)) {
                    who.add(l);
                }
            }
            return who;
        }

        boolean canGo(int f) {
            return free(figs.get(f).at.to(figs.get(f).side));
        }

        void go() {
            for (int f = 0; f < figs.size(); f++) {
                Fig g = figs.get(f);
                if ((hour + 1) % g.every == 0 && seers(f).isEmpty()) {
                    if (canGo(f)) {
                        g.at = g.at.to(g.side);
                        g.gone++;
                        land.put(g.at, g.owner);
                    } else {
                        g.side = (g.side + 1) % 4;
                    }
                }
            }
            hour++;
        }

        int gone() {
            return figs.stream().mapToInt(f -> f.gone).sum();
        }

        int turn(int l, int side) {
            if (looks.get(l).side == side) {
                return 1;
            }
            looks.get(l).side = side;
            return 0;
        }

        int walk(int l, int side) {
            Cell to = looks.get(l).at.to(side);
            if (!inside(to)) {
                return 1;
            }
            if (hedges.contains(to)) {
                return 2;
            }
            if (person(to)) {
                return 3;
            }
            looks.get(l).at = to;
            return 0;
        }

        int eyes(int l, boolean shut) {
            if (looks.get(l).shut == shut) {
                return 1;
            }
            looks.get(l).shut = shut;
            return 0;
        }

        int face(int f, int side) {
            if (!seers(f).isEmpty()) {
                return 1;
            }
            if (figs.get(f).side == side) {
                return 2;
            }
            figs.get(f).side = side;
            return 0;
        }

        int figNamed(String n) {
            for (int i = 0; i < figs.size(); i++) {
                if (figs.get(i).name.equals(n)) {
                    return i;
                }
            }
            return -1;
        }

        int lookNamed(String n) {
            for (int i = 0; i < looks.size(); i++) {
                if (looks.get(i).name.equals(n)) {
                    return i;
                }
            }
            return -1;
        }
    }

    static final class Fault extends RuntimeException {
        private static final long serialVersionUID = 1L;
        final int kind;
        final int place;

        Fault(int kind, int place) {
            this.kind = kind;
            this.place = place;
        }
    }

    record Token(String text, int place, String sort) { }

    static final class Draws {
        int x;

        int draw(int n) {
            x = x * 1103515245 + 12345;
            return (x >>> 8) % n;
        }
    }

    private World world = new World();
    private List<Byte> tape = new ArrayList<>();
    private Predicate<Integer> sentence;
    private String sentenceText;
    private final LinkedList<World> undos = new LinkedList<>();
    private final World[] images = new World[2];
    private final String[] imageSentences = new String[2];
    private int fault;
    private List<Integer> cover = new ArrayList<>();
    private int fewest = -1;
    private int blinded = -1;
    private List<Integer> fits = new ArrayList<>();
    private int asked = -1;
    private String line = "";
    private int[] told;

    private List<Token> tokens;
    private int next;
    private int ones;

    /** For those who make texts about it. */
    List<String> names(String of) {
        List<String> names = new ArrayList<>();
        if (of.equals("owner")) {
            names.addAll(world.owners);
        } else if (of.equals("figure")) {
            world.figs.forEach(f -> names.add(f.name));
        } else {
            world.looks.forEach(l -> names.add(l.name));
        }
        return names;
    }

    // --- the tape

    public int feed(int a, int b, int c, int d, int e) {
        if (tape.size() + 20 > 940) {
            return -1;
        }
        for (int v : new int[] {a, b, c, d, e}) {
            tape.add((byte) (v >>> 24));
            tape.add((byte) (v >>> 16));
            tape.add((byte) (v >>> 8));
            tape.add((byte) v);
        }
        return tape.size();
    }

    public boolean end(int n) {
        if (n < 0 || n > tape.size()) {
            return false;
        }
        tape = new ArrayList<>(tape.subList(0, n));
        return true;
    }

    private String takeTape() {
        StringBuilder b = new StringBuilder();
        for (byte v : tape) {
            b.append((char) (v & 255));
        }
        tape = new ArrayList<>();
        return b.toString();
    }

    private void tokenize(String text, int most) {
        tokens = new ArrayList<>();
        next = 0;
        Matcher m = Pattern.compile("[a-z0-9]+|[^ \n]", Pattern.DOTALL).matcher(text);
        while (m.find() && m.start() < most) {
            String t = m.group();
            String sort = t.matches("[a-z]{1,7}") ? (TOLD.contains(t) ? "word" : "name")
                : t.matches("[0-9]{1,3}") ? "number" : t.matches("[;<=>()]") ? t : "bad";
            tokens.add(new Token(t, m.start(), sort));
        }
        tokens.add(text.length() > most ? new Token("", most, "more") : new Token("", text.length(), "end"));
    }

    private Token peek() {
        return tokens.get(next);
    }

    private Fault at(int kind) {
        return new Fault(kind, peek().place);
    }

    private boolean is(String text) {
        return peek().text.equals(text) && !peek().sort.equals("bad");
    }

    private boolean take(String text) {
        if (is(text)) {
            next++;
            return true;
        }
        return false;
    }

    private void need(String text) {
        if (!take(text)) {
            throw at(1);
        }
    }

    private boolean over() {
        if (peek().sort.equals("more")) {
            throw at(1);
        }
        return peek().sort.equals("end");
    }

    private int number(int least, int most) {
        if (!peek().sort.equals("number")) {
            throw at(1);
        }
        int n = Integer.parseInt(peek().text);
        if (n < least || n > most) {
            throw at(2);
        }
        next++;
        return n;
    }

    private int side() {
        int s = SIDES.indexOf(peek().text);
        if (s < 0) {
            throw at(1);
        }
        next++;
        return s;
    }

    private String name(Predicate<String> fine) {
        if (!peek().sort.equals("name")) {
            throw at(1);
        }
        String n = peek().text;
        if (!fine.test(n)) {
            throw at(3);
        }
        next++;
        return n;
    }

    // --- a field

    private Cell place(World w) {
        int x = number(0, w.wide - 1);
        int place = peek().place;
        Cell c = new Cell(x, number(0, w.high - 1));
        if (!w.free(c)) {
            throw new Fault(3, place);
        }
        return c;
    }

    private int parseField(World w) {
        int lines = 0;
        boolean sized = false;
        boolean placed = false;
        Predicate<String> fresh = n -> !w.owners.contains(n) && w.figNamed(n) < 0 && w.lookNamed(n) < 0;
        while (!over()) {
            if (is("field")) {
                if (sized || placed) {
                    throw at(3);
                }
                sized = true;
                next++;
                w.wide = number(2, 9);
                w.high = number(2, 9);
            } else if (is("hedge")) {
                placed = true;
                next++;
                w.hedges.add(place(w));
            } else if (is("owner")) {
                if (w.owners.size() == 4) {
                    throw at(4);
                }
                next++;
                w.owners.add(name(fresh));
            } else if (is("land")) {
                placed = true;
                next++;
                int o = w.owners.indexOf(name(w.owners::contains));
                int place = peek().place;
                int y = number(0, w.high - 1);
                if (w.rows.put(y, o) != null) {
                    throw new Fault(3, place);
                }
            } else if (is("figure")) {
                placed = true;
                parseFigure(w, fresh);
            } else if (is("looker")) {
                placed = true;
                parseLooker(w, fresh);
            } else {
                throw at(1);
            }
            need(";");
            lines++;
        }
        return lines;
    }

    private void parseFigure(World w, Predicate<String> fresh) {
        if (w.figs.size() == 6) {
            throw at(4);
        }
        next++;
        Fig f = new Fig();
        f.name = name(fresh);
        f.owner = w.owners.indexOf(name(w.owners::contains));
        f.at = place(w);
        f.first = f.at;
        f.side = side();
        f.every = number(1, 9);
        w.figs.add(f);
    }

    private void parseLooker(World w, Predicate<String> fresh) {
        if (w.looks.size() == 5) {
            throw at(4);
        }
        next++;
        Look l = new Look();
        l.name = name(fresh);
        l.at = place(w);
        l.side = side();
        int from = 0;
        int many = 24;
        if (peek().sort.equals("number")) {
            from = number(0, 23);
            many = number(1, 24);
        }
        for (int i = 0; i < many; i++) {
            l.hours.add((from + i) % 24);
        }
        w.looks.add(l);
    }

    public int field() {
        tokenize(takeTape(), 900);
        World w = new World();
        try {
            int lines = parseField(w);
            w.begin();
            world = w;
            sentence = null;
            sentenceText = null;
            undos.clear();
            fault = 0;
            return lines;
        } catch (Fault f) {
            fault = f.kind;
            return -1 - f.place;
        }
    }

    public int fault() {
        return fault;
    }

    // --- what is so

    private boolean fig(int f) {
        return f >= 0 && f < world.figs.size();
    }

    private boolean look(int l) {
        return l >= 0 && l < world.looks.size();
    }

    private boolean sideOk(int s) {
        return s >= 0 && s < 4;
    }

    private static int bits(Set<Integer> set) {
        int b = 0;
        for (int i : set) {
            b += 1 << i;
        }
        return b;
    }

    public int figure(int f, int what) {
        if (!fig(f) || what < 0 || what > 7) {
            throw new NoSuchElementException();
        }
        Fig g = world.figs.get(f);
        return new int[] {g.at.x, g.at.y, g.side, g.owner, g.every, g.gone, bits(world.seers(f)), world.canGo(f) ? 1 : 0}[what];
    }

    public int looker(int l, int what) {
        if (!look(l) || what < 0 || what > 5) {
            return -1;
        }
        Look k = world.looks.get(l);
        return new int[] {k.at.x, k.at.y, k.side, k.shut ? 1 : 0, world.looking(k) ? 1 : 0, bits(world.sees(l))}[what];
    }

    public int cell(int x, int y, int what) {
        Cell c = new Cell(x, y);
        if (!world.inside(c) || what < 0 || what > 3) {
            return -1;
        }
        if (what == 0) {
            return world.hedges.contains(c) ? 1 : 0;
        }
        if (what == 3) {
            return world.land.getOrDefault(c, -1);
        }
        for (int f = 0; what == 1 && f < world.figs.size(); f++) {
            if (world.figs.get(f).at.equals(c)) {
                return f;
            }
        }
        for (int l = 0; what == 2 && l < world.looks.size(); l++) {
            if (world.looks.get(l).at.equals(c)) {
                return l;
            }
        }
        return -1;
    }

    public int now(int what) {
        Set<Integer> set = new HashSet<>();
        for (int f = 0; f < world.figs.size(); f++) {
            if (what == 1 && !world.seers(f).isEmpty() || what == 2 && world.canGo(f)) {
                set.add(f);
            }
        }
        for (int l = 0; l < world.looks.size(); l++) {
            if (what == 3 && world.looking(world.looks.get(l))) {
                set.add(l);
            }
        }
        return what == 0 ? world.hour : what == 4 ? world.gone() : what >= 1 && what <= 3 ? bits(set) : -1;
    }

    public int land(int o) {
        return o < 0 || o >= world.owners.size() ? -1 : world.landOf(o);
    }

    public int count(int what) {
        int[] all = {world.wide, world.high, world.owners.size(), world.figs.size(), world.looks.size(), tape.size()};
        return what < 0 || what > 5 ? -1 : all[what];
    }

    // --- acts

    private void remember(World before) {
        undos.addLast(before);
        if (undos.size() > 8) {
            undos.removeFirst();
        }
    }

    private int done(World before, int why) {
        if (why == 0) {
            remember(before);
        }
        return why;
    }

    public int turn(int l, int side) {
        return look(l) && sideOk(side) ? done(world.copy(), world.turn(l, side)) : -1;
    }

    public int walk(int l, int side) {
        return look(l) && sideOk(side) ? done(world.copy(), world.walk(l, side)) : -1;
    }

    public int shut(int l) {
        return look(l) ? done(world.copy(), world.eyes(l, true)) : -1;
    }

    public int open(int l) {
        return look(l) ? done(world.copy(), world.eyes(l, false)) : -1;
    }

    public int face(int f, int side) {
        return fig(f) && sideOk(side) ? done(world.copy(), world.face(f, side)) : -1;
    }

    public int hours(int n) {
        if (n < 1 || n > 60) {
            return -1;
        }
        World before = world.copy();
        int went = 0;
        while (went < n && world.hour < 1000) {
            world.go();
            went++;
        }
        if (went > 0) {
            remember(before);
        }
        return went;
    }

    public int undo() {
        if (undos.isEmpty()) {
            return -1;
        }
        world = undos.removeLast();
        return undos.size();
    }

    // --- what would be

    public int where(int f, int k) {
        if (!fig(f) || k < 0 || k > 200) {
            return -1;
        }
        World w = world.copy();
        for (int i = 0; i < k; i++) {
            w.go();
        }
        return 9 * w.figs.get(f).at.y + w.figs.get(f).at.x;
    }

    public int comes(int f, int x, int y) {
        if (!fig(f) || !world.inside(new Cell(x, y))) {
            return -1;
        }
        World w = world.copy();
        for (int i = 0; i <= 200; i++) {
            if (w.figs.get(f).at.equals(new Cell(x, y))) {
                return i;
            }
            w.go();
        }
        return -1;
    }

    private void coverFrom(int l, Set<Integer> seen, List<Integer> sides, int[] most) {
        if (l == world.looks.size()) {
            if (seen.size() > most[0]) {
                most[0] = seen.size();
                cover = new ArrayList<>(sides);
            }
            return;
        }
        for (int s = 0; s < 4; s++) {
            Set<Integer> more = new HashSet<>(seen);
            if (world.looking(world.looks.get(l))) {
                more.addAll(world.couldSee(l, s));
            }
            sides.add(s);
            coverFrom(l + 1, more, sides, most);
            sides.remove(sides.size() - 1);
        }
    }

    public int cover() {
        int[] most = {-1};
        coverFrom(0, new HashSet<>(), new ArrayList<>(), most);
        return most[0];
    }

    public int coverBy(int l) {
        return l < 0 || l >= cover.size() ? -1 : cover.get(l);
    }

    private boolean all(int l, int who, Set<Integer> seen) {
        if (l == world.looks.size()) {
            return seen.size() == world.figs.size();
        }
        if ((who & 1 << l) == 0) {
            return all(l + 1, who, seen);
        }
        for (int s = 0; s < 4; s++) {
            Set<Integer> more = new HashSet<>(seen);
            more.addAll(world.couldSee(l, s));
            if (all(l + 1, who, more)) {
                return true;
            }
        }
        return false;
    }

    public int few() {
        int best = -1;
        for (int who = 0; who < 1 << world.looks.size(); who++) {
            if (all(0, who, new HashSet<>()) && (best < 0 || Integer.bitCount(who) < Integer.bitCount(best))) {
                best = who;
            }
        }
        if (best < 0) {
            return -1;
        }
        fewest = best;
        return Integer.bitCount(best);
    }

    public int fewest() {
        return fewest;
    }

    public int blind(int f, int x, int y, int n) {
        if (!fig(f) || !world.inside(new Cell(x, y)) || n < 1 || n > 60) {
            return -1;
        }
        int best = -1;
        for (int who = 0; who < 1 << world.looks.size(); who++) {
            World w = world.copy();
            for (int l = 0; l < w.looks.size(); l++) {
                if ((who & 1 << l) != 0) {
                    w.looks.get(l).shut = true;
                }
            }
            boolean comes = false;
            for (int i = 1; i <= n; i++) {
                w.go();
                comes |= w.figs.get(f).at.equals(new Cell(x, y));
            }
            if (comes && (best < 0 || Integer.bitCount(who) < Integer.bitCount(best))) {
                best = who;
            }
        }
        if (best < 0) {
            return -1;
        }
        blinded = best;
        return Integer.bitCount(best);
    }

    public int blinded() {
        return blinded;
    }

    private List<Cell> alone(Cell first, int number) {
        World w = new World();
        w.wide = world.wide;
        w.high = world.high;
        w.hedges = world.hedges;
        Fig f = new Fig();
        f.at = first;
        f.side = number / 9;
        f.every = number % 9 + 1;
        w.figs.add(f);
        List<Cell> path = new ArrayList<>();
        for (int h = 0; h <= 12; h++) {
            path.add(f.at);
            w.go();
        }
        return path;
    }

    public int fits() {
        String text = takeTape();
        if (text.length() % 2 != 0 || text.length() < 4 || text.length() > 16) {
            return -1;
        }
        List<Cell> shown = new ArrayList<>();
        for (int i = 0; i < text.length(); i += 2) {
            Cell c = new Cell(text.charAt(i), text.charAt(i + 1));
            if (!world.inside(c) || world.hedges.contains(c)) {
                return -1;
            }
            shown.add(c);
        }
        Map<Integer, List<Cell>> left = new TreeMap<>();
        for (int number = 0; number < 36; number++) {
            List<Cell> path = alone(shown.get(0), number);
            if (path.subList(0, shown.size()).equals(shown)) {
                left.put(number, path);
            }
        }
        if (!left.isEmpty()) {
            fits = new ArrayList<>(left.keySet());
            int least = Integer.MAX_VALUE;
            for (int h = 1; h <= 12; h++) {
                Map<Cell, Integer> many = new HashMap<>();
                for (List<Cell> path : left.values()) {
                    many.merge(path.get(h), 1, Integer::sum);
                }
                int most = many.values().stream().max(Integer::compare).get();
                if (most < least) {
                    least = most;
                    asked = h;
                }
            }
        }
        return left.size();
    }

    public int fitsAt(int k) {
        return k < 0 || k >= fits.size() ? -1 : fits.get(k);
    }

    public int ask() {
        return asked;
    }

    public int grown() {
        int best = -1;
        int most = Integer.MIN_VALUE;
        for (int o = 0; o < world.owners.size(); o++) {
            int more = world.landOf(o) - world.landAtFirst.get(o);
            if (more > most) {
                most = more;
                best = o;
            }
        }
        return best;
    }

    public int farthest() {
        int best = -1;
        int most = -1;
        for (int f = 0; f < world.figs.size(); f++) {
            if (world.figs.get(f).gone > most) {
                most = world.figs.get(f).gone;
                best = f;
            }
        }
        return best;
    }

    public int mean(int what) {
        int below = world.figs.size();
        if (below == 0 || what < 0 || what > 1) {
            throw new NoSuchElementException();
        }
        int above = world.gone();
        for (int d = below; d > 1; d--) {
            if (above % d == 0 && below % d == 0) {
                above /= d;
                below /= d;
            }
        }
        return what == 0 ? above : below;
    }

    public int line(int f) {
        if (!fig(f)) {
            return -1;
        }
        Fig g = world.figs.get(f);
        line = g.name + " at " + g.at.x + " " + g.at.y + " to " + SIDES.get(g.side) + (world.seers(f).isEmpty() ? "" : " seen");
        return line.length();
    }

    public int byteAt(int i) {
        return i < 0 || i >= line.length() ? -1 : line.charAt(i);
    }

    private static void drawHour(World w, Draws d) {
        for (int l = 0; l < w.looks.size(); l++) {
            int what = d.draw(8);
            if (what <= 3) {
                w.turn(l, what);
            }
            if (what == 4) {
                w.looks.get(l).shut = !w.looks.get(l).shut;
            }
            if (what == 5) {
                w.walk(l, d.draw(4));
            }
        }
        w.go();
    }

    public int drawn(int n, int seed) {
        if (n < 1 || n > 60) {
            return -1;
        }
        World before = world.copy();
        Draws d = new Draws();
        d.x = seed;
        int went = 0;
        while (went < n && world.hour < 1000) {
            drawHour(world, d);
            went++;
        }
        if (went > 0) {
            remember(before);
        }
        return went;
    }

    public int odds(int f, int n, int seed) {
        if (!fig(f) || n < 1 || n > 30) {
            return -1;
        }
        int many = 0;
        for (int i = 0; i < n; i++) {
            World w = world.copy();
            Draws d = new Draws();
            d.x = seed + i;
            for (int h = 0; h < 20 && w.hour < 1000; h++) {
                drawHour(w, d);
            }
            many += w.figs.get(f).gone > world.figs.get(f).gone ? 1 : 0;
        }
        return many;
    }

    // --- a book

    interface Deed {
        int on(World w);
    }

    private List<Deed> parseBook() {
        List<Deed> deeds = new ArrayList<>();
        while (!over()) {
            Token first = peek();
            int l = first.sort.equals("name") ? world.lookNamed(first.text) : -1;
            int f = first.sort.equals("name") ? world.figNamed(first.text) : -1;
            if (!first.sort.equals("name") && !is("hour")) {
                throw at(1);
            }
            if (!is("hour") && l < 0 && f < 0) {
                throw at(3);
            }
            if (deeds.size() == 40) {
                throw at(4);
            }
            next++;
            if (l >= 0) {
                deeds.add(lookerDeed(l));
            } else if (f >= 0) {
                need("faces");
                int s = side();
                deeds.add(w -> tens(40, w.face(f, s)));
            } else {
                int n = number(1, 60);
                deeds.add(w -> {
                    if (1000 - w.hour < n) {
                        return 51;
                    }
                    for (int i = 0; i < n; i++) {
                        w.go();
                    }
                    return 0;
                });
            }
            need(";");
        }
        return deeds;
    }

    private Deed lookerDeed(int l) {
        if (take("turns")) {
            int s = side();
            return w -> w.turn(l, s);
        }
        if (take("walks")) {
            int s = side();
            return w -> tens(10, w.walk(l, s));
        }
        if (take("shuts")) {
            return w -> tens(20, w.eyes(l, true));
        }
        need("opens");
        return w -> tens(30, w.eyes(l, false));
    }

    private static int tens(int tens, int why) {
        return why == 0 ? 0 : tens + why;
    }

    public int book(int lives) {
        if (lives != 0 && lives != 1) {
            return -1000;
        }
        tokenize(takeTape(), 400);
        List<Deed> deeds;
        try {
            deeds = parseBook();
            fault = 0;
        } catch (Fault f) {
            fault = f.kind;
            return -2 - f.place;
        }
        World w = world.copy();
        int wrong = -1;
        int why = 0;
        for (int i = 0; i < deeds.size() && wrong < 0; i++) {
            why = deeds.get(i).on(w);
            if (why != 0) {
                wrong = i;
            }
        }
        int ahead = wrong < 0 ? deeds.size() : wrong;
        told = new int[] {why, ahead, w.hour, w.gone()};
        if (lives == 1 && ahead > 0) {
            remember(world);
            world = w;
        }
        return wrong;
    }

    public int told(int what) {
        return told == null || what < 0 || what > 3 ? -1 : told[what];
    }

    // --- a sentence

    private Predicate<Integer> cond(int depth) {
        Predicate<Integer> p = all(depth);
        while (take("or")) {
            p = p.or(all(depth));
        }
        return p;
    }

    private Predicate<Integer> all(int depth) {
        Predicate<Integer> p = one(depth);
        while (take("and")) {
            p = p.and(one(depth));
        }
        return p;
    }

    private Predicate<Integer> one(int depth) {
        boolean starts = is("(") || List.of("not", "seen", "stuck", "moved", "of", "by", "gone", "every", "number").contains(peek().text);
        if (!starts) {
            throw at(1);
        }
        if (ones == 20 || depth > 8) {
            throw at(4);
        }
        ones++;
        if (take("(")) {
            Predicate<Integer> p = cond(depth + 1);
            need(")");
            return p;
        }
        if (take("not")) {
            return one(depth + 1).negate();
        }
        if (take("seen")) {
            return f -> !world.seers(f).isEmpty();
        }
        if (take("stuck")) {
            return f -> !world.canGo(f);
        }
        if (take("moved")) {
            return f -> !world.figs.get(f).at.equals(world.figs.get(f).first);
        }
        if (take("of")) {
            int o = world.owners.indexOf(name(world.owners::contains));
            return f -> world.figs.get(f).owner == o;
        }
        if (take("by")) {
            int l = world.lookNamed(name(n -> world.lookNamed(n) >= 0));
            return f -> world.seers(f).contains(l);
        }
        String what = peek().text;
        next++;
        String sign = peek().text;
        if (!is("<") && !is("=") && !is(">")) {
            throw at(1);
        }
        next++;
        int n = number(0, 999);
        return f -> {
            Fig g = world.figs.get(f);
            int v = what.equals("gone") ? g.gone : what.equals("every") ? g.every : f;
            return sign.equals("<") ? v < n : sign.equals("=") ? v == n : v > n;
        };
    }

    private Predicate<Integer> parseSentence(String text) {
        tokenize(text, 200);
        ones = 0;
        Predicate<Integer> p = cond(1);
        if (!over()) {
            throw at(1);
        }
        return p;
    }

    public int sentence() {
        String text = takeTape();
        try {
            sentence = parseSentence(text);
            sentenceText = text;
            fault = 0;
            return ones;
        } catch (Fault f) {
            fault = f.kind;
            return -1 - f.place;
        }
    }

    public int said(int k) {
        if (sentence == null) {
            return -1;
        }
        List<Integer> who = new ArrayList<>();
        for (int f = 0; f < world.figs.size(); f++) {
            if (sentence.test(f)) {
                who.add(f);
            }
        }
        return k == -1 ? who.size() : k < 0 || k >= who.size() ? -1 : who.get(k);
    }

    // --- images

    public boolean image(int k) {
        if (k < 0 || k > 1) {
            return false;
        }
        images[k] = world.copy();
        imageSentences[k] = sentenceText;
        return true;
    }

    public boolean restore(int k) {
        if (k < 0 || k > 1 || images[k] == null) {
            return false;
        }
        world = images[k].copy();
        sentenceText = imageSentences[k];
        sentence = sentenceText == null ? null : parseSentence(sentenceText);
        undos.clear();
        return true;
    }
}
