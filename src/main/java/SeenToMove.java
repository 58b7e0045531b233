import java.util.NoSuchElementException;

/** Figures that go on by cells when nobody looks; ../shared/DOC.md says what each call promises. */
public final class SeenToMove {
    public static final int NONE = -1;

    private static final int EDGE = 9;
    private static final int CELLS = 81;
    private static final int SIDES = 4;
    private static final int OWNERS = 4;
    private static final int FIGURES = 6;
    private static final int LOOKERS = 5;
    private static final int DAY = 24;
    private static final int LAST_HOUR = 1000;
    private static final int MOST_AHEAD = 200;
    private static final int MOST_HOURS = 60;
    private static final int TAPE = 940;
    private static final int FED = 20;
    private static final int FIELD_BYTES = 900;
    private static final int BOOK_BYTES = 400;
    private static final int SENTENCE_BYTES = 200;
    private static final int BOOK_LINES = 40;
    private static final int ONES = 20;
    private static final int WITHIN = 8;
    private static final int UNDOS = 8;
    private static final int WAYS = 36;
    private static final int SHOWN = 8;
    private static final int ASKED = 12;
    private static final int PATH = 13;
    private static final int MOST_SEEDS = 30;
    private static final int ODDS_HOURS = 20;

    private static final int CANT_COME = 1;
    private static final int BAD_NUMBER = 2;
    private static final int BAD_NAME = 3;
    private static final int TOO_MANY = 4;

    private static final int IS_BAD = 0;
    private static final int IS_END = 1;
    private static final int IS_WORD = 2;
    private static final int IS_NAME = 3;
    private static final int IS_NUMBER = 4;
    private static final int IS_SIGN = 5;

    /** The order gives the numbers below; the sides stand first, so that a side's word has the side's number. */
    private static final String TOLD_WORDS = "east south west north field hedge owner land figure looker turns walks shuts opens faces hour or and not seen stuck moved of by gone every number ";
    private static final int WORDS = 27;
    private static final int W_FIELD = 4;
    private static final int W_HEDGE = 5;
    private static final int W_OWNER = 6;
    private static final int W_LAND = 7;
    private static final int W_FIGURE = 8;
    private static final int W_LOOKER = 9;
    private static final int W_TURNS = 10;
    private static final int W_WALKS = 11;
    private static final int W_SHUTS = 12;
    private static final int W_OPENS = 13;
    private static final int W_FACES = 14;
    private static final int W_HOUR = 15;
    private static final int W_OR = 16;
    private static final int W_AND = 17;
    private static final int W_NOT = 18;
    private static final int W_SEEN = 19;
    private static final int W_STUCK = 20;
    private static final int W_MOVED = 21;
    private static final int W_OF = 22;
    private static final int W_BY = 23;
    private static final int W_GONE = 24;
    private static final int W_EVERY = 25;
    private static final int W_NUMBER = 26;

    private final Tape tape = new Tape();
    private final Field field = new Field();
    private final State state = new State(field);
    private final State scratch = new State(field);
    private final Sentence sentence = new Sentence();
    private final FieldText fieldText = new FieldText(tape);
    private final BookText bookText = new BookText(tape, field);
    private final SentenceText sentenceText = new SentenceText(tape, field);
    private final Undos undos = new Undos(field);
    private final Image firstImage = new Image();
    private final Image secondImage = new Image();
    private final Fits latestFits = new Fits();
    private final Answers latest = new Answers();
    private final int[] sights = new int[LOOKERS * SIDES];

    public SeenToMove() {
    }

    public int feed(int a, int b, int c, int d, int e) {
        if (tape.size > TAPE - FED) {
            return NONE;
        }
        tape.add(a);
        tape.add(b);
        tape.add(c);
        tape.add(d);
        tape.add(e);
        return tape.size;
    }

    public boolean end(int n) {
        if (n < 0 || n > tape.size) {
            return false;
        }
        tape.size = n;
        return true;
    }

    public int field() {
        int lines = fieldText.read();
        tape.size = 0;
        latest.fault = tape.fault;
        if (tape.fault != 0) {
            return -1 - tape.faultPlace;
        }
        field.copyFrom(fieldText.field);
        state.copyFrom(fieldText.state);
        sentence.clear();
        undos.clear();
        return lines;
    }

    public int fault() {
        return latest.fault;
    }

    public int figure(int f, int what) throws NoSuchElementException {
        if (!field.hasFigure(f) || what < 0 || what > 7) {
            throw new NoSuchElementException("no such figure, or nothing of it by that number");
        }
        switch (what) {
            case 0: return at(state.cells, f) % EDGE;
            case 1: return at(state.cells, f) / EDGE;
            case 2: return at(state.faces, f);
            case 3: return at(field.figureOwners, f);
            case 4: return at(field.everys, f);
            case 5: return at(state.gone, f);
            case 6: return state.seers(f);
            default: return state.canGo(f) ? 1 : 0;
        }
    }

    public int looker(int l, int what) {
        if (!field.hasLooker(l)) {
            return NONE;
        }
        switch (what) {
            case 0: return at(state.posts, l) % EDGE;
            case 1: return at(state.posts, l) / EDGE;
            case 2: return at(state.sides, l);
            case 3: return at(state.closed, l);
            case 4: return state.looks(l) ? 1 : 0;
            case 5: return state.looks(l) ? state.sight(l, at(state.sides, l)) : 0;
            default: return NONE;
        }
    }

    public int cell(int x, int y, int what) {
        if (!field.hasCell(x, y)) {
            return NONE;
        }
        int cell = EDGE * y + x;
        switch (what) {
            case 0: return at(field.hedges, cell);
            case 1: return state.figureIn(cell);
            case 2: return state.lookerIn(cell);
            case 3: return at(state.owned, cell);
            default: return NONE;
        }
    }

    public int now(int what) {
        switch (what) {
            case 0: return state.hour;
            case 1: return seenFigures();
            case 2: return freeFigures();
            case 3: return lookingLookers();
            case 4: return state.goneByAll();
            default: return NONE;
        }
    }

    private int seenFigures() {
        int bits = 0;
        for (int f = 0; f < field.figures; f++) {
            if (state.seers(f) != 0) {
                bits |= 1 << f;
            }
        }
        return bits;
    }

    private int freeFigures() {
        int bits = 0;
        for (int f = 0; f < field.figures; f++) {
            if (state.canGo(f)) {
                bits |= 1 << f;
            }
        }
        return bits;
    }

    private int lookingLookers() {
        int bits = 0;
        for (int l = 0; l < field.lookers; l++) {
            if (state.looks(l)) {
                bits |= 1 << l;
            }
        }
        return bits;
    }

    public int land(int o) {
        return o < 0 || o >= field.owners ? NONE : state.landOf(o);
    }

    public int turn(int l, int side) {
        if (!field.hasLooker(l) || !isSide(side)) {
            return NONE;
        }
        undos.hold(state);
        return keepIfDone(state.turnTo(l, side));
    }

    public int walk(int l, int side) {
        if (!field.hasLooker(l) || !isSide(side)) {
            return NONE;
        }
        undos.hold(state);
        return keepIfDone(state.walkTo(l, side));
    }

    public int shut(int l) {
        if (!field.hasLooker(l)) {
            return NONE;
        }
        undos.hold(state);
        return keepIfDone(state.setEyes(l, 1));
    }

    public int open(int l) {
        if (!field.hasLooker(l)) {
            return NONE;
        }
        undos.hold(state);
        return keepIfDone(state.setEyes(l, 0));
    }

    public int face(int f, int side) {
        if (!field.hasFigure(f) || !isSide(side)) {
            return NONE;
        }
        undos.hold(state);
        return keepIfDone(state.faceTo(f, side));
    }

    private int keepIfDone(int why) {
        if (why == 0) {
            undos.keep();
        }
        return why;
    }

    public int hours(int n) {
        if (n < 1 || n > MOST_HOURS) {
            return NONE;
        }
        int before = state.hour;
        undos.hold(state);
        for (int i = 0; i < n && state.hour < LAST_HOUR; i++) {
            state.goHour();
        }
        return keepIfGone(state.hour - before);
    }

    private int keepIfGone(int went) {
        if (went > 0) {
            undos.keep();
        }
        return went;
    }

    public int undo() {
        return undos.giveBack(state);
    }

    public int where(int f, int k) {
        if (!field.hasFigure(f) || k < 0 || k > MOST_AHEAD) {
            return NONE;
        }
        scratch.copyFrom(state);
        for (int i = 0; i < k; i++) {
            scratch.goHour();
        }
        return at(scratch.cells, f);
    }

    public int comes(int f, int x, int y) {
        if (!field.hasFigure(f) || !field.hasCell(x, y)) {
            return NONE;
        }
        int cell = EDGE * y + x;
        scratch.copyFrom(state);
        for (int hours = 0; hours <= MOST_AHEAD; hours++) {
            if (at(scratch.cells, f) == cell) {
                return hours;
            }
            scratch.goHour();
        }
        return NONE;
    }

    public int cover() {
        markSights(true);
        int most = NONE;
        int best = 0;
        // Looker 0 has the highest digits: the first way that sees most has the least sides, looker by looker.
        for (int way = 0; way < 1 << 2 * field.lookers; way++) {
            int many = Integer.bitCount(sightsOf(way));
            if (many > most) {
                most = many;
                best = way;
            }
        }
        latest.coverLookers = field.lookers;
        for (int l = 0; l < field.lookers; l++) {
            put(latest.coverSides, l, digit(best, l));
        }
        return most;
    }

    /** What each looker would see to each side; without those who do not look if onlyNow. */
    private void markSights(boolean onlyNow) {
        for (int l = 0; l < field.lookers; l++) {
            boolean sees = !onlyNow || state.looks(l);
            for (int side = 0; side < SIDES; side++) {
                put(sights, SIDES * l + side, sees ? state.sight(l, side) : 0);
            }
        }
    }

    private int sightsOf(int way) {
        int seen = 0;
        for (int l = 0; l < field.lookers; l++) {
            seen |= at(sights, SIDES * l + digit(way, l));
        }
        return seen;
    }

    private int digit(int way, int l) {
        return way >> 2 * (field.lookers - 1 - l) & 3;
    }

    public int coverBy(int l) {
        return l < 0 || l >= latest.coverLookers ? NONE : at(latest.coverSides, l);
    }

    public int few() {
        markSights(false);
        for (int many = 0; many <= field.lookers; many++) {
            for (int bits = 0; bits < 1 << field.lookers; bits++) {
                if (Integer.bitCount(bits) == many && couldSeeAll(bits)) {
                    latest.fewest = bits;
                    return many;
                }
            }
        }
        return NONE;
    }

    private boolean couldSeeAll(int bits) {
        int all = (1 << field.figures) - 1;
        int ways = 1 << 2 * Integer.bitCount(bits);
        for (int way = 0; way < ways; way++) {
            int rest = way;
            int seen = 0;
            for (int l = 0; l < field.lookers; l++) {
                if ((bits >> l & 1) == 1) {
                    seen |= at(sights, SIDES * l + (rest & 3));
                    rest >>= 2;
                }
            }
            if (seen == all) {
                return true;
            }
        }
        return false;
    }

    public int fewest() {
        return latest.fewest;
    }

    public int blind(int f, int x, int y, int n) {
        if (!field.hasFigure(f) || !field.hasCell(x, y) || n < 1 || n > MOST_HOURS) {
            return NONE;
        }
        for (int many = 0; many <= field.lookers; many++) {
            for (int bits = 0; bits < 1 << field.lookers; bits++) {
                if (Integer.bitCount(bits) == many && comesBlind(f, EDGE * y + x, n, bits)) {
                    latest.blinded = bits;
                    return many;
                }
            }
        }
        return NONE;
    }

    private boolean comesBlind(int f, int cell, int n, int bits) {
        scratch.copyFrom(state);
        for (int l = 0; l < field.lookers; l++) {
            // Whose eyes are shut already can't be one of these: without him they are fewer.
            if ((bits >> l & 1) == 1 && scratch.setEyes(l, 1) != 0) {
                return false;
            }
        }
        for (int i = 0; i < n; i++) {
            scratch.goHour();
            if (at(scratch.cells, f) == cell) {
                return true;
            }
        }
        return false;
    }

    public int blinded() {
        return latest.blinded;
    }

    public int fits() {
        boolean fine = latestFits.readCells(tape, field);
        tape.size = 0;
        return fine ? latestFits.find(field) : NONE;
    }

    public int fitsAt(int k) {
        return k < 0 || k >= latestFits.size ? NONE : at(latestFits.numbers, k);
    }

    public int ask() {
        return latestFits.asked;
    }

    public int grown() {
        int best = NONE;
        int most = 0;
        for (int o = 0; o < field.owners; o++) {
            int more = state.landOf(o) - at(field.firstLand, o);
            if (best == NONE || more > most) {
                best = o;
                most = more;
            }
        }
        return best;
    }

    public int farthest() {
        int best = NONE;
        for (int f = 0; f < field.figures; f++) {
            if (best == NONE || at(state.gone, f) > at(state.gone, best)) {
                best = f;
            }
        }
        return best;
    }

    public int mean(int what) throws NoSuchElementException {
        if (field.figures < 1 || what < 0 || what > 1) {
            throw new NoSuchElementException("no figures, or no such number of a fraction");
        }
        int all = state.goneByAll();
        int common = commonDivisor(all, field.figures);
        int told = what == 0 ? all : field.figures;
        return common > 0 ? told / common : told;
    }

    private static int commonDivisor(int a, int b) {
        int greater = a;
        int less = b;
        for (int i = 0; i < 64 && less > 0; i++) {
            int rest = greater % less;
            greater = less;
            less = rest;
        }
        return greater;
    }

    public int line(int f) {
        if (!field.hasFigure(f)) {
            return NONE;
        }
        int cell = at(state.cells, f);
        latest.lineSize = 0;
        latest.addName(nameAt(field.figureNames, f));
        latest.addText(" at ");
        latest.addSign('0' + cell % EDGE);
        latest.addSign(' ');
        latest.addSign('0' + cell / EDGE);
        latest.addText(" to ");
        latest.addName(nameAt(tape.words, at(state.faces, f)));
        if (state.seers(f) != 0) {
            latest.addText(" seen");
        }
        return latest.lineSize;
    }

    public int byteAt(int i) {
        return i < 0 || i >= latest.lineSize ? NONE : at(latest.line, i);
    }

    public int drawn(int n, int seed) {
        if (n < 1 || n > MOST_HOURS) {
            return NONE;
        }
        int before = state.hour;
        int x = seed;
        undos.hold(state);
        for (int i = 0; i < n && state.hour < LAST_HOUR; i++) {
            x = state.goDrawnHour(x);
        }
        return keepIfGone(state.hour - before);
    }

    public int odds(int f, int n, int seed) {
        if (!field.hasFigure(f) || n < 1 || n > MOST_SEEDS) {
            return NONE;
        }
        int many = 0;
        for (int i = 0; i < n; i++) {
            if (goesDrawn(f, seed + i)) {
                many++;
            }
        }
        return many;
    }

    private boolean goesDrawn(int f, int seed) {
        int x = seed;
        scratch.copyFrom(state);
        for (int i = 0; i < ODDS_HOURS && scratch.hour < LAST_HOUR; i++) {
            x = scratch.goDrawnHour(x);
            if (at(scratch.gone, f) > at(state.gone, f)) {
                return true;
            }
        }
        return false;
    }

    public int book(int lives) {
        if (lives < 0 || lives > 1) {
            return -1000;
        }
        bookText.read();
        tape.size = 0;
        latest.fault = tape.fault;
        if (tape.fault != 0) {
            return -2 - tape.faultPlace;
        }
        int line = 0;
        int why = 0;
        scratch.copyFrom(state);
        for (int i = 0; i < bookText.size && why == 0; i++) {
            why = bookText.doLine(scratch, i);
            line = why == 0 ? i + 1 : i;
        }
        latest.tell(why, line, scratch);
        if (lives == 1 && line > 0) {
            undos.hold(state);
            undos.keep();
            state.copyFrom(scratch);
        }
        return why == 0 ? NONE : line;
    }

    public int told(int what) {
        return what < 0 || what > 3 || !latest.hasTold ? NONE : at(latest.told, what);
    }

    public int sentence() {
        int ones = sentenceText.read();
        tape.size = 0;
        latest.fault = tape.fault;
        if (tape.fault != 0) {
            return -1 - tape.faultPlace;
        }
        sentence.copyFrom(sentenceText.sentence);
        return ones;
    }

    public int said(int k) {
        if (sentence.size == 0 || k < NONE) {
            return NONE;
        }
        int many = 0;
        for (int f = 0; f < field.figures; f++) {
            if (sentence.holds(state, f)) {
                if (many == k) {
                    return f;
                }
                many++;
            }
        }
        return k == NONE ? many : NONE;
    }

    public boolean image(int k) {
        Image image = imageIn(k);
        if (image == null) {
            return false;
        }
        image.field.copyFrom(field);
        image.state.copyFrom(state);
        image.sentence.copyFrom(sentence);
        image.isKept = true;
        return true;
    }

    public boolean restore(int k) {
        Image image = imageIn(k);
        if (image == null || !image.isKept) {
            return false;
        }
        field.copyFrom(image.field);
        state.copyFrom(image.state);
        sentence.copyFrom(image.sentence);
        undos.clear();
        return true;
    }

    private Image imageIn(int k) {
        if (k == 0) {
            return firstImage;
        }
        return k == 1 ? secondImage : null;
    }

    public int count(int what) {
        switch (what) {
            case 0: return field.wide;
            case 1: return field.high;
            case 2: return field.owners;
            case 3: return field.figures;
            case 4: return field.lookers;
            case 5: return tape.size;
            default: return NONE;
        }
    }

    private static boolean isSide(int side) {
        return side >= 0 && side < SIDES;
    }

    private static boolean divides(int divisor, int number) {
        return divisor > 0 && number % divisor == 0;
    }

    private static int at(int[] row, int i) {
        return i >= 0 && i < row.length ? row[i] : 0;
    }

    private static void put(int[] row, int i, int value) {
        if (i >= 0 && i < row.length) {
            row[i] = value;
        }
    }

    private static long nameAt(long[] names, int i) {
        return i >= 0 && i < names.length ? names[i] : 0L;
    }

    private static void putName(long[] names, int i, long name) {
        if (i >= 0 && i < names.length) {
            names[i] = name;
        }
    }

    private static int placeOf(long[] names, int many, long name) {
        for (int i = 0; i < many && i < names.length; i++) {
            if (names[i] == name) {
                return i;
            }
        }
        return NONE;
    }

    private static void fill(int[] row, int value) {
        for (int i = 0; i < row.length; i++) {
            row[i] = value;
        }
    }

    private static void copy(int[] from, int[] to) {
        System.arraycopy(from, 0, to, 0, Math.min(from.length, to.length));
    }

    private static void copyNames(long[] from, long[] to) {
        System.arraycopy(from, 0, to, 0, Math.min(from.length, to.length));
    }

    /** What a text tells once and for all; a cell is 9 by its y and its x in all rows. */
    private static final class Field {
        int wide = 6;
        int high = 6;
        int owners;
        int figures;
        int lookers;
        final long[] ownerNames = new long[OWNERS];
        final long[] figureNames = new long[FIGURES];
        final long[] lookerNames = new long[LOOKERS];
        final int[] hedges = new int[CELLS];
        final int[] firstLand = new int[OWNERS];
        final int[] figureOwners = new int[FIGURES];
        final int[] everys = new int[FIGURES];
        final int[] firstCells = new int[FIGURES];
        final int[] froms = new int[LOOKERS];
        final int[] longs = new int[LOOKERS];

        void clear() {
            wide = 6;
            high = 6;
            owners = 0;
            figures = 0;
            lookers = 0;
            fill(hedges, 0);
        }

        void copyFrom(Field other) {
            wide = other.wide;
            high = other.high;
            owners = other.owners;
            figures = other.figures;
            lookers = other.lookers;
            copyNames(other.ownerNames, ownerNames);
            copyNames(other.figureNames, figureNames);
            copyNames(other.lookerNames, lookerNames);
            copy(other.hedges, hedges);
            copy(other.firstLand, firstLand);
            copy(other.figureOwners, figureOwners);
            copy(other.everys, everys);
            copy(other.firstCells, firstCells);
            copy(other.froms, froms);
            copy(other.longs, longs);
        }

        boolean hasFigure(int f) {
            return f >= 0 && f < figures;
        }

        boolean hasLooker(int l) {
            return l >= 0 && l < lookers;
        }

        boolean hasCell(int x, int y) {
            return x >= 0 && x < wide && y >= 0 && y < high;
        }

        boolean isTold(long name) {
            return placeOf(ownerNames, owners, name) != NONE
                || placeOf(figureNames, figures, name) != NONE
                || placeOf(lookerNames, lookers, name) != NONE;
        }

        /** The cell beside a cell, NONE beyond the rim. */
        int beside(int cell, int side) {
            int x = cell % EDGE;
            int y = cell / EDGE;
            switch (side) {
                case 0: x++; break;
                case 1: y++; break;
                case 2: x--; break;
                default: y--; break;
            }
            return x >= 0 && x < wide && y >= 0 && y < high ? EDGE * y + x : NONE;
        }

        boolean hasHedge(int cell) {
            return cell >= 0 && cell < hedges.length && hedges[cell] == 1;
        }
    }

    /** All that is so in a field in an hour; goes on by itself, so that a copy can go ahead. */
    private static final class State {
        final Field field;
        int hour;
        final int[] cells = new int[FIGURES];
        final int[] faces = new int[FIGURES];
        final int[] gone = new int[FIGURES];
        final int[] posts = new int[LOOKERS];
        final int[] sides = new int[LOOKERS];
        final int[] closed = new int[LOOKERS];
        final int[] owned = new int[CELLS];

        State(Field field) {
            this.field = field;
            for (int i = 0; i < owned.length; i++) {
                owned[i] = NONE;
            }
        }

        void copyFrom(State other) {
            hour = other.hour;
            copy(other.cells, cells);
            copy(other.faces, faces);
            copy(other.gone, gone);
            copy(other.posts, posts);
            copy(other.sides, sides);
            copy(other.closed, closed);
            copy(other.owned, owned);
        }

        /** Behind the text: the land, and hour 0. */
        void begin(int[] rowOwners) {
            hour = 0;
            fill(gone, 0);
            fill(closed, 0);
            fill(owned, NONE);
            for (int y = 0; y < field.high; y++) {
                for (int x = 0; x < field.wide; x++) {
                    put(owned, EDGE * y + x, at(rowOwners, y));
                }
            }
            for (int f = 0; f < field.figures; f++) {
                put(owned, at(cells, f), at(field.figureOwners, f));
                put(field.firstCells, f, at(cells, f));
            }
            for (int o = 0; o < field.owners; o++) {
                put(field.firstLand, o, landOf(o));
            }
        }

        int figureIn(int cell) {
            for (int f = 0; f < field.figures && f < cells.length; f++) {
                if (cells[f] == cell) {
                    return f;
                }
            }
            return NONE;
        }

        int lookerIn(int cell) {
            for (int l = 0; l < field.lookers && l < posts.length; l++) {
                if (posts[l] == cell) {
                    return l;
                }
            }
            return NONE;
        }

        boolean hasSomebody(int cell) {
            return figureIn(cell) != NONE || lookerIn(cell) != NONE;
        }

        int landOf(int o) {
            int many = 0;
            for (int i = 0; i < owned.length; i++) {
                if (owned[i] == o) {
                    many++;
                }
            }
            return many;
        }

        int goneByAll() {
            int all = 0;
            for (int f = 0; f < field.figures; f++) {
                all += at(gone, f);
            }
            return all;
        }

        boolean looks(int l) {
            int hoursOfHis = Math.floorMod(hour - at(field.froms, l), DAY);
            return at(closed, l) == 0 && hoursOfHis < at(field.longs, l);
        }

        /** If a looker has a cell in sight to a side, whether he looks or not. */
        boolean isInSight(int l, int side, int cell) {
            int next = at(posts, l);
            boolean inLine = side % 2 == 0 ? next / EDGE == cell / EDGE : next % EDGE == cell % EDGE;
            for (int i = 0; inLine && i < EDGE && next != NONE && !field.hasHedge(next); i++) {
                if (next == cell) {
                    return true;
                }
                next = field.beside(next, side);
            }
            return false;
        }

        int sight(int l, int side) {
            int bits = 0;
            for (int f = 0; f < field.figures; f++) {
                if (isInSight(l, side, at(cells, f))) {
                    bits |= 1 << f;
                }
            }
            return bits;
        }

        int seers(int f) {
            int bits = 0;
            int cell = at(cells, f);
            for (int l = 0; l < field.lookers; l++) {
                if (looks(l) && isInSight(l, at(sides, l), cell)) {
                    bits |= 1 << l;
                }
            }
            return bits;
        }

        boolean canGo(int f) {
            int next = field.beside(at(cells, f), at(faces, f));
            return next != NONE && !field.hasHedge(next) && figureIn(next) == NONE && lookerIn(next) == NONE;
        }

        void goHour() {
            for (int f = 0; f < field.figures; f++) {
                if (divides(at(field.everys, f), hour + 1) && seers(f) == 0) {
                    goOrTurn(f);
                }
            }
            hour++;
        }

        void goOrTurn(int f) {
            if (canGo(f)) {
                int next = field.beside(at(cells, f), at(faces, f));
                put(cells, f, next);
                put(gone, f, at(gone, f) + 1);
                put(owned, next, at(field.figureOwners, f));
            } else {
                put(faces, f, at(faces, f) + 1 & 3);
            }
        }

        int turnTo(int l, int side) {
            if (at(sides, l) == side) {
                return 1;
            }
            put(sides, l, side);
            return 0;
        }

        int walkTo(int l, int side) {
            int next = field.beside(at(posts, l), side);
            if (next == NONE) {
                return 1;
            }
            if (field.hasHedge(next)) {
                return 2;
            }
            if (hasSomebody(next)) {
                return 3;
            }
            put(posts, l, next);
            return 0;
        }

        /** Shuts (1) or opens (0) his eyes. */
        int setEyes(int l, int shut) {
            if (at(closed, l) == shut) {
                return 1;
            }
            put(closed, l, shut);
            return 0;
        }

        int faceTo(int f, int side) {
            if (seers(f) != 0) {
                return 1;
            }
            if (at(faces, f) == side) {
                return 2;
            }
            put(faces, f, side);
            return 0;
        }

        /** An hour with its draws ahead; answers the seed for the next one. */
        int goDrawnHour(int seed) {
            int x = seed;
            for (int l = 0; l < field.lookers; l++) {
                x = nextSeed(x);
                int what = (x >>> 8) % 8;
                if (what < 4) {
                    turnTo(l, what);
                } else if (what == 4) {
                    setEyes(l, 1 - at(closed, l));
                } else if (what == 5) {
                    x = nextSeed(x);
                    walkTo(l, (x >>> 8) % 4);
                }
            }
            goHour();
            return x;
        }

        private static int nextSeed(int x) {
            return x * 1103515245 + 12345;
        }
    }

    /**
     * The bytes fed, read token by token; behind the first fault no token fits any more.
     * A word is kept as a number, five bits for each of its letters.
     */
    private static final class Tape {
        final byte[] bytes = new byte[TAPE];
        final long[] words = new long[WORDS];
        int size;
        int most;
        int next;
        int kind;
        int place;
        int behind;
        int value;
        long name;
        int fault;
        int faultPlace;

        Tape() {
            int many = 0;
            long word = 0;
            for (int i = 0; i < TOLD_WORDS.length(); i++) {
                char sign = TOLD_WORDS.charAt(i);
                if (sign == ' ') {
                    putName(words, many, word);
                    many++;
                    word = 0;
                } else {
                    word = word << 5 | sign - 'a' + 1;
                }
            }
        }

        void add(int number) {
            for (int shift = 24; shift >= 0; shift -= 8) {
                if (size >= 0 && size < bytes.length) {
                    bytes[size] = (byte) (number >> shift);
                    size++;
                }
            }
        }

        int signAt(int i) {
            return i >= 0 && i < size && i < bytes.length ? bytes[i] & 255 : 0;
        }

        void start(int mostBytes) {
            most = mostBytes;
            next = 0;
            fault = 0;
            faultPlace = 0;
            place = 0;
            advance();
        }

        void advance() {
            int limit = Math.min(size, most);
            behind = place;
            for (int i = 0; i < TAPE && next < limit && isBlank(signAt(next)); i++) {
                next++;
            }
            place = Math.min(next, limit);
            value = signAt(next);
            if (next >= limit) {
                kind = IS_END;
            } else if (isTokenSign(value)) {
                kind = IS_SIGN;
                next++;
            } else {
                kind = readRun();
            }
            if (kind == IS_NAME) {
                value = placeOf(words, WORDS, name);
                kind = value == NONE ? IS_NAME : IS_WORD;
            }
        }

        /** A word or a number, read whole: beyond the most bytes, too. Anything else is bad. */
        private int readRun() {
            int letters = 0;
            int digits = 0;
            boolean goesOn = true;
            name = 0;
            value = 0;
            for (int i = next; goesOn && i >= 0 && i < size && i < bytes.length; i++) {
                int sign = bytes[i];
                if (sign >= 'a' && sign <= 'z') {
                    letters++;
                    name = name << 5 | sign - 'a' + 1;
                } else if (sign >= '0' && sign <= '9') {
                    digits++;
                    value = 10 * value + sign - '0';
                } else {
                    goesOn = false;
                }
            }
            next += letters + digits;
            if (digits == 0 && letters >= 1 && letters <= 7) {
                return IS_NAME;
            }
            return letters == 0 && digits >= 1 && digits <= 3 ? IS_NUMBER : IS_BAD;
        }

        private static boolean isBlank(int sign) {
            return sign == 32 || sign == 10;
        }

        private static boolean isTokenSign(int sign) {
            return sign == ';' || sign >= '<' && sign <= '>' || sign == '(' || sign == ')';
        }

        void fail(int why) {
            failAt(why, place);
        }

        void failAt(int why, int where) {
            if (fault == 0) {
                fault = why;
                faultPlace = where;
            }
            kind = IS_BAD;
        }

        /** If there is something more to read; a text with too many bytes fails at its end. */
        boolean goesOn() {
            if (kind == IS_END && size > most) {
                fail(CANT_COME);
            }
            return kind != IS_END && fault == 0;
        }

        boolean isWord(int word) {
            return kind == IS_WORD && value == word;
        }

        boolean isSign(int sign) {
            return kind == IS_SIGN && value == sign;
        }

        boolean takesWord(int word) {
            boolean takes = isWord(word);
            if (takes) {
                advance();
            }
            return takes;
        }

        void needSign(int sign) {
            if (isSign(sign)) {
                advance();
            } else {
                fail(CANT_COME);
            }
        }

        int needNumber(int least, int greatest) {
            if (kind != IS_NUMBER) {
                fail(CANT_COME);
                return least;
            }
            if (value < least || value > greatest) {
                fail(BAD_NUMBER);
                return least;
            }
            int number = value;
            advance();
            return number;
        }

        int needSide() {
            if (kind != IS_WORD || !isSide(value)) {
                fail(CANT_COME);
                return 0;
            }
            int side = value;
            advance();
            return side;
        }

        /** Which of these names it is; 0 with a fault. */
        int needNameOf(long[] names, int many) {
            int found = kind == IS_NAME ? placeOf(names, many, name) : NONE;
            if (found == NONE) {
                fail(kind == IS_NAME ? BAD_NAME : CANT_COME);
                return 0;
            }
            advance();
            return found;
        }
    }

    /** Reads a field into rows of its own, as the one that is so stays with a fault. */
    private static final class FieldText {
        final Tape tape;
        final Field field = new Field();
        final State state = new State(field);
        private final int[] rowOwners = new int[EDGE];
        private boolean isSized;
        private boolean isPlaced;

        FieldText(Tape tape) {
            this.tape = tape;
        }

        int read() {
            int lines = 0;
            field.clear();
            fill(rowOwners, NONE);
            isSized = false;
            isPlaced = false;
            tape.start(FIELD_BYTES);
            for (int i = 0; i < FIELD_BYTES && tape.goesOn(); i++) {
                switch (tape.kind == IS_WORD ? tape.value : NONE) {
                    case W_FIELD: readSize(); break;
                    case W_HEDGE: readHedge(); break;
                    case W_OWNER: readOwner(); break;
                    case W_LAND: readLand(); break;
                    case W_FIGURE: readFigure(); break;
                    case W_LOOKER: readLooker(); break;
                    default: tape.fail(CANT_COME); break;
                }
                tape.needSign(';');
                lines++;
            }
            if (tape.fault == 0) {
                state.begin(rowOwners);
            }
            return lines;
        }

        private void readSize() {
            if (isSized || isPlaced) {
                tape.fail(BAD_NAME);
                return;
            }
            isSized = true;
            tape.advance();
            field.wide = tape.needNumber(2, EDGE);
            field.high = tape.needNumber(2, EDGE);
        }

        private void readHedge() {
            tape.advance();
            put(field.hedges, readCell(), 1);
        }

        private int readCell() {
            isPlaced = true;
            int x = tape.needNumber(0, field.wide - 1);
            int y = tape.needNumber(0, field.high - 1);
            int cell = EDGE * y + x;
            if (field.hasHedge(cell) || state.hasSomebody(cell)) {
                tape.failAt(BAD_NAME, tape.behind);
            }
            return cell;
        }

        private long readNewName() {
            long name = tape.name;
            if (tape.kind != IS_NAME) {
                tape.fail(CANT_COME);
            } else if (field.isTold(name)) {
                tape.fail(BAD_NAME);
            } else {
                tape.advance();
            }
            return name;
        }

        private void readOwner() {
            if (field.owners >= OWNERS) {
                tape.fail(TOO_MANY);
                return;
            }
            tape.advance();
            putName(field.ownerNames, field.owners, readNewName());
            field.owners++;
        }

        private void readLand() {
            isPlaced = true;
            tape.advance();
            int owner = tape.needNameOf(field.ownerNames, field.owners);
            int y = tape.needNumber(0, field.high - 1);
            if (at(rowOwners, y) != NONE) {
                tape.failAt(BAD_NAME, tape.behind);
            }
            put(rowOwners, y, owner);
        }

        private void readFigure() {
            int f = field.figures;
            if (f >= FIGURES) {
                tape.fail(TOO_MANY);
                return;
            }
            tape.advance();
            putName(field.figureNames, f, readNewName());
            put(field.figureOwners, f, tape.needNameOf(field.ownerNames, field.owners));
            put(state.cells, f, readCell());
            put(state.faces, f, tape.needSide());
            put(field.everys, f, tape.needNumber(1, 9));
            field.figures++;
        }

        private void readLooker() {
            int l = field.lookers;
            if (l >= LOOKERS) {
                tape.fail(TOO_MANY);
                return;
            }
            tape.advance();
            putName(field.lookerNames, l, readNewName());
            put(state.posts, l, readCell());
            put(state.sides, l, tape.needSide());
            boolean hasHours = tape.kind == IS_NUMBER;
            put(field.froms, l, hasHours ? tape.needNumber(0, DAY - 1) : 0);
            put(field.longs, l, hasHours ? tape.needNumber(1, DAY) : DAY);
            field.lookers++;
        }
    }

    /** Reads a book whole ahead of any of its lines being done. */
    private static final class BookText {
        final Tape tape;
        final Field field;
        int size;
        private final int[] deeds = new int[BOOK_LINES];
        private final int[] whos = new int[BOOK_LINES];
        private final int[] tos = new int[BOOK_LINES];

        BookText(Tape tape, Field field) {
            this.tape = tape;
            this.field = field;
        }

        void read() {
            size = 0;
            tape.start(BOOK_BYTES);
            for (int i = 0; i < BOOK_BYTES && tape.goesOn(); i++) {
                readLine();
                tape.needSign(';');
            }
        }

        private void readLine() {
            boolean isName = tape.kind == IS_NAME;
            boolean isHour = tape.isWord(W_HOUR);
            int l = isName ? placeOf(field.lookerNames, field.lookers, tape.name) : NONE;
            int f = isName ? placeOf(field.figureNames, field.figures, tape.name) : NONE;
            if (!isName && !isHour) {
                tape.fail(CANT_COME);
            } else if (isName && l == NONE && f == NONE) {
                tape.fail(BAD_NAME);
            } else if (size >= BOOK_LINES) {
                tape.fail(TOO_MANY);
            } else {
                tape.advance();
                if (isHour) {
                    addLine(W_HOUR, 0, tape.needNumber(1, MOST_HOURS));
                } else if (l != NONE) {
                    readLooker(l);
                } else if (tape.takesWord(W_FACES)) {
                    addLine(W_FACES, f, tape.needSide());
                } else {
                    tape.fail(CANT_COME);
                }
            }
        }

        private void readLooker(int l) {
            if (tape.takesWord(W_TURNS)) {
                addLine(W_TURNS, l, tape.needSide());
            } else if (tape.takesWord(W_WALKS)) {
                addLine(W_WALKS, l, tape.needSide());
            } else if (tape.takesWord(W_SHUTS)) {
                addLine(W_SHUTS, l, 0);
            } else if (tape.takesWord(W_OPENS)) {
                addLine(W_OPENS, l, 0);
            } else {
                tape.fail(CANT_COME);
            }
        }

        private void addLine(int deed, int who, int to) {
            put(deeds, size, deed);
            put(whos, size, who);
            put(tos, size, to);
            size++;
        }

        /** Does a line in a state: 0, or why it is wrong. */
        int doLine(State state, int i) {
            int who = at(whos, i);
            int to = at(tos, i);
            switch (at(deeds, i)) {
                case W_TURNS: return wrongBy(0, state.turnTo(who, to));
                case W_WALKS: return wrongBy(10, state.walkTo(who, to));
                case W_SHUTS: return wrongBy(20, state.setEyes(who, 1));
                case W_OPENS: return wrongBy(30, state.setEyes(who, 0));
                case W_FACES: return wrongBy(40, state.faceTo(who, to));
                default: break;
            }
            if (state.hour + to > LAST_HOUR) {
                return 51;
            }
            for (int n = 0; n < to; n++) {
                state.goHour();
            }
            return 0;
        }

        private static int wrongBy(int tens, int why) {
            return why == 0 ? 0 : tens + why;
        }
    }

    /** What is said, in the order in which a stack works it out; without steps there is none. */
    private static final class Sentence {
        int size;
        private final int[] steps = new int[2 * ONES];
        private final int[] signs = new int[2 * ONES];
        private final int[] numbers = new int[2 * ONES];

        void clear() {
            size = 0;
        }

        void copyFrom(Sentence other) {
            size = other.size;
            copy(other.steps, steps);
            copy(other.signs, signs);
            copy(other.numbers, numbers);
        }

        void add(int step, int sign, int number) {
            if (size < steps.length) {
                put(steps, size, step);
                put(signs, size, sign);
                put(numbers, size, number);
                size++;
            }
        }

        boolean holds(State state, int f) {
            // One bit for each answer that waits: the ones are fewer than an int's bits.
            int stack = 0;
            for (int i = 0; i < size; i++) {
                int step = at(steps, i);
                int rest = stack >> 1;
                if (step == W_NOT) {
                    stack ^= 1;
                } else if (step == W_AND) {
                    stack = rest & (stack | ~1);
                } else if (step == W_OR) {
                    stack = rest | stack & 1;
                } else {
                    stack = stack << 1 | (isSo(state, f, i) ? 1 : 0);
                }
            }
            return (stack & 1) == 1;
        }

        private boolean isSo(State state, int f, int i) {
            int sign = at(signs, i);
            int number = at(numbers, i);
            switch (at(steps, i)) {
                case W_SEEN: return state.seers(f) != 0;
                case W_STUCK: return !state.canGo(f);
                case W_MOVED: return at(state.cells, f) != at(state.field.firstCells, f);
                case W_OF: return at(state.field.figureOwners, f) == number;
                case W_BY: return (state.seers(f) >> number & 1) == 1;
                case W_GONE: return compares(at(state.gone, f), sign, number);
                case W_EVERY: return compares(at(state.field.everys, f), sign, number);
                default: return compares(f, sign, number);
            }
        }

        private static boolean compares(int left, int sign, int right) {
            if (sign == '<') {
                return left < right;
            }
            return sign == '=' ? left == right : left > right;
        }
    }

    /** Reads a sentence into one of its own, as the one that is so stays with a fault. */
    private static final class SentenceText {
        final Tape tape;
        final Field field;
        final Sentence sentence = new Sentence();
        private int ones;

        SentenceText(Tape tape, Field field) {
            this.tape = tape;
            this.field = field;
        }

        int read() {
            ones = 0;
            sentence.clear();
            tape.start(SENTENCE_BYTES);
            readCond(1);
            if (tape.goesOn()) {
                tape.fail(CANT_COME);
            }
            return ones;
        }

        private void readCond(int depth) {
            boolean goesOn = true;
            for (int alls = 0; alls <= ONES && goesOn; alls++) {
                readOne(depth);
                for (int more = 0; more <= ONES && tape.takesWord(W_AND); more++) {
                    readOne(depth);
                    sentence.add(W_AND, 0, 0);
                }
                if (alls > 0) {
                    sentence.add(W_OR, 0, 0);
                }
                goesOn = tape.takesWord(W_OR);
            }
        }

        private void readOne(int depth) {
            boolean isBracket = tape.isSign('(');
            boolean isOne = tape.kind == IS_WORD && tape.value >= W_NOT && tape.value <= W_NUMBER;
            if (!isBracket && !isOne) {
                tape.fail(CANT_COME);
                return;
            }
            if (ones >= ONES || depth > WITHIN) {
                tape.fail(TOO_MANY);
                return;
            }
            ones++;
            int word = tape.value;
            tape.advance();
            if (isBracket) {
                readCond(depth + 1);
                tape.needSign(')');
            } else if (word == W_NOT) {
                readOne(depth + 1);
                sentence.add(W_NOT, 0, 0);
            } else if (word == W_OF) {
                sentence.add(word, 0, tape.needNameOf(field.ownerNames, field.owners));
            } else if (word == W_BY) {
                sentence.add(word, 0, tape.needNameOf(field.lookerNames, field.lookers));
            } else if (word >= W_GONE) {
                int sign = readSign();
                sentence.add(word, sign, tape.needNumber(0, 999));
            } else {
                sentence.add(word, 0, 0);
            }
        }

        private int readSign() {
            int sign = tape.value;
            if (tape.isSign('<') || tape.isSign('=') || tape.isSign('>')) {
                tape.advance();
            } else {
                tape.fail(CANT_COME);
            }
            return sign;
        }
    }

    /** A ring with one place more than are kept, as what is held may turn out not to be done. */
    private static final class Undos {
        private final State[] ring = new State[UNDOS + 1];
        private int size;
        private int next;

        Undos(Field field) {
            for (int i = 0; i < ring.length; i++) {
                ring[i] = new State(field);
            }
        }

        void clear() {
            size = 0;
        }

        private State stateIn(int i) {
            return i >= 0 && i < ring.length ? ring[i] : null;
        }

        void hold(State state) {
            State held = stateIn(next);
            if (held != null) {
                held.copyFrom(state);
            }
        }

        void keep() {
            next = (next + 1) % (UNDOS + 1);
            size = Math.min(size + 1, UNDOS);
        }

        /** How many more can be; NONE if there is none. */
        int giveBack(State state) {
            int latest = (next + UNDOS) % (UNDOS + 1);
            State held = stateIn(latest);
            if (size == 0 || held == null) {
                return NONE;
            }
            state.copyFrom(held);
            next = latest;
            size--;
            return size;
        }
    }

    /** A place for an image. */
    private static final class Image {
        final Field field = new Field();
        final State state = new State(field);
        final Sentence sentence = new Sentence();
        boolean isKept;
    }

    /** How one goes that was in told cells: the cells told, and the latest that fitted. */
    private static final class Fits {
        final int[] numbers = new int[WAYS];
        int size;
        int asked = NONE;
        private final int[] shown = new int[SHOWN];
        private int shownSize;
        private final int[] paths = new int[WAYS * PATH];

        boolean readCells(Tape tape, Field field) {
            shownSize = tape.size / 2;
            if (tape.size % 2 != 0 || shownSize < 2 || shownSize > SHOWN) {
                return false;
            }
            for (int i = 0; i < shownSize; i++) {
                int x = tape.signAt(2 * i);
                int y = tape.signAt(2 * i + 1);
                if (!field.hasCell(x, y) || field.hasHedge(EDGE * y + x)) {
                    return false;
                }
                put(shown, i, EDGE * y + x);
            }
            return true;
        }

        int find(Field field) {
            int found = 0;
            for (int number = 0; number < WAYS; number++) {
                goAlone(field, number);
                if (isAsShown(number)) {
                    put(numbers, found, number);
                    found++;
                }
            }
            if (found > 0) {
                size = found;
                asked = bestHour();
            }
            return found;
        }

        private void goAlone(Field field, int number) {
            int cell = at(shown, 0);
            int side = number / EDGE;
            int every = number % EDGE + 1;
            for (int hour = 0; hour < PATH; hour++) {
                put(paths, PATH * number + hour, cell);
                if (divides(every, hour + 1)) {
                    int next = field.beside(cell, side);
                    if (next == NONE || field.hasHedge(next)) {
                        side = side + 1 & 3;
                    } else {
                        cell = next;
                    }
                }
            }
        }

        private boolean isAsShown(int number) {
            for (int i = 0; i < shownSize; i++) {
                if (at(paths, PATH * number + i) != at(shown, i)) {
                    return false;
                }
            }
            return true;
        }

        private int bestHour() {
            int best = 1;
            for (int hour = 2; hour <= ASKED; hour++) {
                if (mostLeft(hour) < mostLeft(best)) {
                    best = hour;
                }
            }
            return best;
        }

        /** Of those that fit, the greatest number that would be in one cell in that hour. */
        private int mostLeft(int hour) {
            int most = 0;
            for (int i = 0; i < size; i++) {
                int cell = at(paths, PATH * at(numbers, i) + hour);
                int many = 0;
                for (int j = 0; j < size; j++) {
                    if (at(paths, PATH * at(numbers, j) + hour) == cell) {
                        many++;
                    }
                }
                most = Math.max(most, many);
            }
            return most;
        }
    }

    /** What calls told last: it stays, whatever becomes of the field. */
    private static final class Answers {
        int fault;
        final int[] coverSides = new int[LOOKERS];
        int coverLookers;
        int fewest = NONE;
        int blinded = NONE;
        final int[] line = new int[40];
        int lineSize;
        final int[] told = new int[4];
        boolean hasTold;

        void tell(int why, int lines, State state) {
            hasTold = true;
            put(told, 0, why);
            put(told, 1, lines);
            put(told, 2, state.hour);
            put(told, 3, state.goneByAll());
        }

        void addSign(int sign) {
            put(line, lineSize, sign);
            lineSize++;
        }

        void addText(String text) {
            for (int i = 0; i < text.length(); i++) {
                addSign(text.charAt(i));
            }
        }

        void addName(long name) {
            for (int shift = 30; shift >= 0; shift -= 5) {
                int letter = (int) (name >> shift) & 31;
                if (letter != 0) {
                    addSign('a' + letter - 1);
                }
            }
        }
    }
}
