/** Promise by promise: ordinary inputs, the edges that the document names, wrong inputs. */
public final class PromisesTest extends Calls {
    private static final int[] FAR = {-1, Integer.MIN_VALUE, Integer.MAX_VALUE};

    /** 6 by 5 with a hedge; red has the top row, blue the one below; one looks always, one at night. */
    private static final String PLAIN = "field 6 5; owner red; owner blue; land red 0; land blue 1; hedge 3 0;"
        + "figure dog red 0 2 east 1; figure cat blue 5 4 north 2; looker mo 0 0 east; looker tom 5 0 west 22 4;";

    private static int wrong;
    private static int promise;

    public static void main(String[] args) {
        newObject();
        feedAndEnd();
        fieldTexts();
        fieldFaults();
        faultPlaces();
        whatIsSo();
        acts();
        faces();
        hoursGo();
        landGoes();
        undoes();
        whereAndComes();
        covers();
        fews();
        blinds();
        fitting();
        counts();
        lines();
        draws();
        books();
        bookFaults();
        sentences();
        sentenceFaults();
        images();
        System.out.println(wrong == 0 ? "all promises hold" : wrong + " answers are not as due");
        if (wrong != 0) {
            System.exit(1);
        }
    }

    private static void due(String call, long got, long want) {
        if (got != want) {
            wrong++;
            System.out.println("promise " + promise + ": " + call + " answered " + got + ", due is " + want);
        }
    }

    private static void due(String call, boolean got, boolean want) {
        due(call, got ? 1 : 0, want ? 1 : 0);
    }

    private static void newObject() {
        promise = 1;
        SeenToMove x = new SeenToMove();
        due("count(0)", x.count(0), 6);
        due("count(1)", x.count(1), 6);
        for (int what = 2; what < 6; what++) {
            due("count(" + what + ")", x.count(what), 0);
        }
        for (int cell = 0; cell < 36; cell++) {
            due("hedge", x.cell(cell % 6, cell / 6, 0), 0);
            due("figure", x.cell(cell % 6, cell / 6, 1), -1);
            due("looker", x.cell(cell % 6, cell / 6, 2), -1);
            due("owner", x.cell(cell % 6, cell / 6, 3), -1);
        }
        due("fault()", x.fault(), 0);
        due("now(0)", x.now(0), 0);
    }

    private static void feedAndEnd() {
        promise = 2;
        SeenToMove x = new SeenToMove();
        for (int i = 1; i <= 47; i++) {
            due("feed", x.feed(1, 2, 3, 4, 5), 20 * i);
        }
        due("feed beyond 940", x.feed(1, 2, 3, 4, 5), -1);
        due("none come", x.count(5), 940);
        promise = 3;
        due("end(921)", x.end(921), true);
        promise = 2;
        due("feed to 941", x.feed(1, 2, 3, 4, 5), -1);
        promise = 3;
        due("end(922)", x.end(922), false);
        due("end(-1)", x.end(-1), false);
        due("end(min)", x.end(Integer.MIN_VALUE), false);
        due("count(5)", x.count(5), 921);
        due("end(921) again", x.end(921), true);
        due("end(920)", x.end(920), true);
        promise = 2;
        due("feed to 940", x.feed(1, 2, 3, 4, 5), 940);
        promise = 3;
        due("end(0)", x.end(0), true);
        due("end(1)", x.end(1), false);
        promise = 2;
        // 'owner a;' with the highest byte of each number first
        x.feed('o' << 24 | 'w' << 16 | 'n' << 8 | 'e', 'r' << 24 | ' ' << 16 | 'a' << 8 | ';', 0, 0, 0);
        x.end(8);
        due("field()", x.field(), 1);
        due("owners", x.count(2), 1);
    }

    private static void fieldTexts() {
        promise = 4;
        SeenToMove x = new SeenToMove();
        due("an empty field", field(x, ""), 0);
        due("lines", field(x, PLAIN), 10);
        due("the tape", x.count(5), 0);
        due("wide", x.count(0), 6);
        due("high", x.count(1), 5);
        due("owners", x.count(2), 2);
        due("figures", x.count(3), 2);
        due("lookers", x.count(4), 2);
        due("no blanks", field(x, "field 2 9;owner a;figure b a 0 8east 9;"), -1 - 31);
        due("it stays", x.count(0), 6);
        due("no blanks", field(x, "field 2 9;owner a;figure b a 0 8 east 9;"), 3);
        due("every", x.figure(0, 4), 9);
        due("many blanks", field(x, " \n\n field\n9 \n2 ; \n"), 1);
        due("wide", x.count(0), 9);
        due("high", x.count(1), 2);
        due("zeros ahead", field(x, "field 009 02;"), 1);
        due("6 by 6 without", field(x, "owner a;") * 100 + x.count(0) * 10 + x.count(1), 166);
        due("field behind an owner", field(x, "owner a; field 9 9;"), 2);
        due("names of seven letters", field(x, "owner abcdefg; owner abcdefh; owner xbcdefg; owner bcdefg;"), 4);
        due("all there may be", field(x, "owner a; owner b; owner c; owner d; figure e a 0 0 east 1; figure f a 0 1 east 1; figure g a 0 2 east 1;"
            + "figure h a 0 3 east 1; figure i a 0 4 east 1; figure j a 0 5 east 1; looker k 1 0 east; looker l 1 1 east; looker m 1 2 east;"
            + "looker n 1 3 east; looker o 1 4 east 23 24; hedge 5 5; land d 5;"), 17);
        x.hours(3);
        x.turn(0, 1);
        x.shut(1);
        sentence(x, "seen");
        due("a new field", field(x, PLAIN), 10);
        due("hour", x.now(0), 0);
        due("no eyes shut", x.looker(1, 3), 0);
        due("no sentence", x.said(-1), -1);
        due("nothing to undo", x.undo(), -1);
    }

    private static void fault(String text, int place, int kind) {
        SeenToMove x = with("owner stays; hedge 1 1;");
        x.turn(0, 0);
        x.hours(1);
        sentence(x, "seen");
        promise = 4;
        due("field of '" + text + "'", field(x, text), -1 - place);
        due("the tape behind '" + text + "'", x.count(5), 0);
        due("the field behind '" + text + "'", x.count(2) + x.cell(1, 1, 0) + x.now(0), 3);
        due("the sentence behind '" + text + "'", x.said(-1), 0);
        due("the undo behind '" + text + "'", x.undo(), 0);
        promise = 5;
        due("fault of '" + text + "'", x.fault(), kind);
        field(x, "");
        due("fault behind a right one", x.fault(), 0);
    }

    private static void fieldFaults() {
        fault(";", 0, 1);
        fault("a;", 0, 1);
        fault("7;", 0, 1);
        fault("owner a", 7, 1);
        fault("owner a;;", 8, 1);
        fault("owner 1;", 6, 1);
        fault("owner east;", 6, 1);
        fault("owner hour;", 6, 1);
        fault("owner number;", 6, 1);
        fault("owner abcdefgh;", 6, 1);
        fault("owner a1;", 6, 1);
        fault("owner A;", 6, 1);
        fault("owner\ta;", 5, 1);
        fault("owner \u00e9;", 6, 1);
        fault("field 1 5;", 6, 2);
        fault("field 5 10;", 8, 2);
        fault("field 5 0005;", 8, 1);
        fault("field 5 a;", 8, 1);
        fault("field 5 5 5;", 10, 1);
        fault("field 5 5; field 5 5;", 11, 3);
        fault("hedge 0 0; field 5 5;", 11, 3);
        fault("owner a; land a 0; field 5 5;", 19, 3);
        fault("hedge 6 0;", 6, 2);
        fault("hedge 0 6;", 8, 2);
        fault("field 3 2; hedge 2 2;", 19, 2);
        fault("hedge 0 0; hedge 0 0;", 19, 3);
        fault("owner a; owner a;", 15, 3);
        fault("owner a; looker a 0 0 east;", 16, 3);
        fault("looker a 0 0 east; owner a;", 25, 3);
        fault("owner b; figure a b 0 0 east 1; looker a 1 0 east;", 39, 3);
        fault("looker a 0 0 east; looker a 1 0 east;", 26, 3);
        fault("looker a 0 0 north 5; looker b 0 0 east;", 20, 1);
        fault("looker a 0 0 seen;", 13, 1);
        fault("looker a 0 0 b;", 13, 1);
        fault("land a 0;", 5, 3);
        fault("looker a 0 0 east; land a 0;", 24, 3);
        fault("owner a; land a 0; land a 0;", 26, 3);
        fault("owner a; land a 6;", 16, 2);
        fault("owner a; figure b b 0 0 east 1;", 18, 3);
        fault("owner a; figure a a 0 0 east 1;", 16, 3);
        fault("owner a; figure b a 0 0 up 1;", 24, 1);
        fault("owner a; figure b a 0 0 east;", 28, 1);
        fault("owner a; figure b a 0 0 east 0;", 29, 2);
        fault("owner a; figure b a 0 0 east 10;", 29, 2);
        fault("hedge 0 0; looker b 0 0 east;", 22, 3);
        fault("looker b 0 0 east 24 1;", 18, 2);
        fault("looker b 0 0 east 0 0;", 20, 2);
        fault("looker b 0 0 east 0 25;", 20, 2);
        fault("looker b 0 0 east 0;", 19, 1);
        fault("looker b 0 0 east 0 1 1;", 22, 1);
        fault("owner a; owner b; owner c; owner d; owner 1;", 36, 4);
        String figures = "owner a; figure b a 0 0 east 1; figure c a 0 1 east 1; figure d a 0 2 east 1;"
            + "figure e a 0 3 east 1; figure f a 0 4 east 1; figure g a 0 5 east 1;";
        fault(figures + "figure a", figures.length(), 4);
        String lookers = "looker b 0 0 east; looker c 0 1 east; looker d 0 2 east; looker e 0 3 east; looker f 0 4 east;";
        fault(lookers + " looker", lookers.length() + 1, 4);
    }

    private static void faultPlaces() {
        fault("owner a;" + blanks(893), 900, 1);
        fault("owner a" + blanks(893) + ";", 900, 1);
        fault("owner 9" + blanks(913), 6, 1);
        fault(blanks(894) + "owner a;", 900, 1);
        fault(blanks(897) + "owner a;", 900, 1);
        fault(blanks(897) + "others a;", 897, 1);
        fault(blanks(898) + "abcdefgh", 898, 1);
        fault(blanks(899) + "?", 899, 1);
        fault("field 9" + blanks(892) + "99", 899, 2);
        fault("owner a; owner" + blanks(885) + "a;", 899, 3);
        fault("owner a; owner" + blanks(886) + "a;", 900, 1);
        SeenToMove x = new SeenToMove();
        due("900 bytes", field(x, "owner a;" + blanks(892)), 1);
        due("900 bytes", field(x, blanks(892) + "owner a;"), 1);
    }

    private static void whatIsSo() {
        SeenToMove x = with(PLAIN);
        promise = 6;
        int[] dog = {0, 2, 0, 0, 1, 0, 0, 1};
        int[] cat = {5, 4, 3, 1, 2, 0, 0, 1};
        for (int what = 0; what < 8; what++) {
            due("figure(0, " + what + ")", x.figure(0, what), dog[what]);
            due("figure(1, " + what + ")", x.figure(1, what), cat[what]);
        }
        for (int bad : new int[] {-1, 2, Integer.MAX_VALUE, Integer.MIN_VALUE}) {
            due("figure(" + bad + ", 0)", orThrows(() -> x.figure(bad, 0)), THROWS);
        }
        for (int bad : new int[] {-1, 8, Integer.MAX_VALUE, Integer.MIN_VALUE}) {
            due("figure(0, " + bad + ")", orThrows(() -> x.figure(0, bad)), THROWS);
        }
        promise = 7;
        int[] mo = {0, 0, 0, 0, 1, 0};
        int[] tom = {5, 0, 2, 0, 1, 0};
        for (int what = 0; what < 6; what++) {
            due("looker(0, " + what + ")", x.looker(0, what), mo[what]);
            due("looker(1, " + what + ")", x.looker(1, what), tom[what]);
        }
        due("looker(2, 0)", x.looker(2, 0), -1);
        due("looker(0, 6)", x.looker(0, 6), -1);
        due("looker(-1, 0)", x.looker(-1, 0), -1);
        promise = 8;
        due("a hedge", x.cell(3, 0, 0), 1);
        due("none", x.cell(2, 0, 0), 0);
        due("dog", x.cell(0, 2, 1), 0);
        due("cat", x.cell(5, 4, 1), 1);
        due("no figure", x.cell(0, 0, 1), -1);
        due("mo", x.cell(0, 0, 2), 0);
        due("tom", x.cell(5, 0, 2), 1);
        due("no looker", x.cell(0, 2, 2), -1);
        due("of red, with a hedge", x.cell(3, 0, 3), 0);
        due("of blue", x.cell(5, 1, 3), 1);
        due("of the dog's owner", x.cell(0, 2, 3), 0);
        due("of nobody", x.cell(1, 2, 3), -1);
        due("beyond", x.cell(6, 0, 0) + x.cell(0, 5, 0) + x.cell(-1, 0, 0) + x.cell(0, -1, 0), -4);
        due("another what", x.cell(0, 0, 4) + x.cell(0, 0, -1), -2);
        promise = 9;
        due("seen", x.now(1), 0);
        due("can go", x.now(2), 3);
        due("look", x.now(3), 3);
        due("went", x.now(4), 0);
        x.turn(0, 1);
        x.turn(1, 1);
        due("seen", x.now(1), 3);
        x.hours(2);
        due("tom ends at 2", x.now(3), 1);
        due("seen by mo alone", x.now(1), 1);
        due("hour", x.now(0), 2);
        due("another what", x.now(5) + x.now(-1), -2);
        promise = 7;
        due("tom does not look", x.looker(1, 4) + x.looker(1, 5), 0);
        promise = 10;
        due("land(0)", x.land(0), 7);
        due("land(1)", x.land(1), 7);
        due("land(2)", x.land(2), -1);
        due("land(-1)", x.land(-1), -1);
        promise = 42;
        due("count(6)", x.count(6), -1);
        due("count(-1)", x.count(-1), -1);
        x.feed(0, 0, 0, 0, 0);
        due("count(5)", x.count(5), 20);
        promise = 7;
        seesAsFarAsAHedge();
    }

    private static void seesAsFarAsAHedge() {
        SeenToMove x = with("owner o; figure a o 1 0 east 1; figure b o 2 0 east 1; looker m 3 0 east; figure c o 5 0 east 1; hedge 4 1;"
            + "looker n 0 0 east; figure d o 5 1 east 1; looker p 0 1 east; figure e o 3 1 east 1; figure f o 0 5 east 1;");
        due("past figures and lookers", x.looker(1, 5), 7);
        due("from his own cell on", x.looker(0, 5), 4);
        due("as far as the hedge", x.looker(2, 5), 16);
        x.turn(2, 1);
        due("down", x.looker(2, 5), 32);
        x.turn(2, 2);
        due("to the rim", x.looker(2, 5), 0);
        promise = 6;
        due("who sees c", x.figure(2, 6), 3);
        due("c faces the rim", x.figure(2, 7), 0);
        due("b faces a looker", x.figure(1, 7), 0);
        due("a faces a figure", x.figure(0, 7), 0);
        due("e faces a hedge", x.figure(4, 7), 0);
        due("f can go", x.figure(5, 7), 1);
    }

    private static void acts() {
        promise = 11;
        SeenToMove x = with(PLAIN);
        due("he does", x.turn(0, 0), 1);
        due("turn", x.turn(0, 3), 0);
        due("he looks", x.looker(0, 2), 3);
        x.shut(0);
        due("shut, too", x.turn(0, 1), 0);
        due("shut, too", x.turn(0, 1), 1);
        for (int bad : FAR) {
            due("no such side", x.turn(0, bad), -1);
            due("no such looker", x.turn(bad, 0), -1);
        }
        due("no such side", x.turn(0, 4), -1);
        due("no such looker", x.turn(2, 0), -1);
        promise = 12;
        SeenToMove y = with("field 4 4; owner o; hedge 1 0; looker a 0 0 south; looker b 0 1 east; figure c o 1 1 east 1;");
        due("the rim", y.walk(0, 3), 1);
        due("the rim", y.walk(0, 2), 1);
        due("a hedge", y.walk(0, 0), 2);
        due("a looker", y.walk(0, 1), 3);
        due("a figure", y.walk(1, 0), 3);
        due("walk", y.walk(1, 1), 0);
        due("x", y.looker(1, 0), 0);
        due("y", y.looker(1, 1), 2);
        due("he looks the same way", y.looker(1, 2), 0);
        due("walk", y.walk(0, 1), 0);
        due("no such side", y.walk(0, 4) + y.walk(0, -1), -2);
        due("no such looker", y.walk(2, 0) + y.walk(-1, 0), -2);
        promise = 13;
        due("shut", y.shut(0), 0);
        due("they are", y.shut(0), 1);
        due("eyes", y.looker(0, 3), 1);
        due("looks", y.looker(0, 4), 0);
        due("no such one", y.shut(2) + y.shut(-1), -2);
        promise = 14;
        due("open", y.open(0), 0);
        due("they are not shut", y.open(0), 1);
        due("eyes", y.looker(0, 3), 0);
        due("looks", y.looker(0, 4), 1);
        due("no such one", y.open(2) + y.open(-1), -2);
    }

    private static void faces() {
        promise = 15;
        SeenToMove x = with("owner o; figure a o 2 0 east 1; figure b o 2 2 east 1; looker m 0 0 east;");
        due("somebody sees it, and it does", x.face(0, 0), 1);
        due("somebody sees it", x.face(0, 1), 1);
        due("it does", x.face(1, 0), 2);
        due("face", x.face(1, 3), 0);
        due("it faces", x.figure(1, 2), 3);
        x.shut(0);
        due("nobody sees it", x.face(0, 1), 0);
        due("no such side", x.face(1, 4) + x.face(1, -1), -2);
        due("no such figure", x.face(2, 0) + x.face(-1, 0), -2);
    }

    private static void hoursGo() {
        promise = 16;
        SeenToMove x = with("field 4 3; owner o; hedge 3 0; figure a o 1 0 east 1; figure b o 0 1 east 3; looker m 0 2 north 1 1;");
        due("hours(0)", x.hours(0), -1);
        due("hours(61)", x.hours(61), -1);
        due("hours(-1)", x.hours(-1), -1);
        due("hours(1)", x.hours(1), 1);
        due("a went", x.figure(0, 0), 2);
        due("b is due each third hour", x.figure(1, 0), 0);
        due("m looks in hour 1", x.figure(1, 6), 1);
        due("hours(1)", x.hours(1), 1);
        due("a turned at the hedge", x.figure(0, 2), 1);
        due("a stays", x.figure(0, 0) + 9 * x.figure(0, 1), 2);
        due("hours(1)", x.hours(1), 1);
        due("b goes in hour 3", x.figure(1, 0), 1);
        due("a went down", x.figure(0, 1), 1);
        due("hour", x.now(0), 3);
        // b comes to 2 1 if a is gone on; a is ahead in each hour
        due("hours(3)", x.hours(3), 3);
        due("b", x.figure(1, 0) + 9 * x.figure(1, 1), 11);
        SeenToMove y = with("field 9 2; owner o; figure a o 0 0 east 1; figure b o 1 0 east 1;");
        y.hours(1);
        due("a turns: b is in its way", y.figure(0, 2), 1);
        due("b goes", y.figure(1, 0), 2);
        SeenToMove z = with("field 9 2; owner o; figure a o 1 0 east 1; figure b o 0 0 east 1;");
        z.hours(1);
        due("b goes where a was", z.figure(1, 0), 1);
        SeenToMove w = new SeenToMove();
        for (int i = 0; i < 16; i++) {
            due("60 hours", w.hours(60), 60);
        }
        due("those that are left", w.hours(60), 40);
        due("hour 1000", w.now(0), 1000);
        due("all are over", w.hours(1), 0);
        seenStay();
    }

    private static void seenStay() {
        SeenToMove x = with("owner o; figure a o 2 0 east 1; looker m 0 0 east 23 2;");
        due("m looks from 23 on", x.now(3), 1);
        x.hours(1);
        due("seen in hour 0, it stays", x.figure(0, 0), 2);
        x.hours(1);
        due("nobody looks in hour 1", x.figure(0, 0), 3);
        x.hours(20);
        int gone = x.figure(0, 5);
        x.hours(1);
        due("in hour 22 nobody looks", x.now(0) * 100 + x.now(3), 2301);
        due("a moved or turned till then", gone > 3 ? 1 : 0, 1);
        x.turn(0, 1);
        x.hours(2);
        due("the day goes on", x.now(0) * 100 + x.now(3), 2500);
    }

    private static void landGoes() {
        promise = 10;
        SeenToMove x = with("field 4 2; owner r; owner b; land b 0; figure a r 0 0 east 1; hedge 3 0;");
        due("a's own cell", x.land(0), 1);
        due("the rest of the row", x.land(1), 3);
        x.hours(2);
        due("land goes with it", x.land(0), 3);
        due("away from b", x.land(1), 1);
        promise = 29;
        due("grown", x.grown(), 0);
        SeenToMove y = with("field 4 2; owner r; owner b; owner c; land r 0; figure a b 0 1 north 1;");
        due("of like ones the first", y.grown(), 0);
        y.hours(1);
        due("b has one more", y.grown(), 1);
        SeenToMove z = with("field 4 2; owner r; owner b; land r 0; figure a b 0 1 north 1; figure d r 1 0 south 1;");
        z.hours(1);
        due("both as many: 1 less and 1 more, 1 more", z.land(0) * 10 + z.land(1), 42);
        due("b has grown", z.grown(), 1);
        SeenToMove none = with("owner r;");
        due("no more nor less", none.grown(), 0);
        due("no owners", new SeenToMove().grown(), -1);
        SeenToMove less = with("field 4 2; owner r; land r 0; owner b; figure a b 0 1 north 1; land b 1;");
        less.hours(2);
        due("less than none and more", less.land(0) * 10 + less.land(1), 35);
        due("grown", less.grown(), 1);
    }

    private static void undoes() {
        promise = 17;
        SeenToMove x = with("owner o; figure a o 2 2 east 1; looker m 0 0 east;");
        due("nothing", x.undo(), -1);
        x.turn(0, 0);
        x.walk(0, 3);
        x.open(0);
        x.face(0, 0);
        x.hours(0);
        x.drawn(0, 1);
        book(x, "m opens;", 1);
        book(x, "m shuts;", 0);
        book(x, "", 1);
        due("nothing was done", x.undo(), -1);
        sentence(x, "of o");
        x.hours(1);
        due("the hour", x.undo(), 0);
        due("the sentence is no act, and stays", x.said(-1), 1);
        x = with("owner o; figure a o 2 2 east 1; looker m 0 0 east;");
        x.turn(0, 1);
        x.walk(0, 1);
        x.shut(0);
        x.open(0);
        x.face(0, 1);
        x.hours(2);
        x.drawn(2, 5);
        book(x, "hour 2; m turns east; m turns east; hour 1;", 1);
        due("the book, whole", x.undo(), 7);
        due("hour", x.now(0), 4);
        due("drawn", x.undo(), 6);
        due("hour", x.now(0), 2);
        due("hours", x.undo(), 5);
        due("hour", x.now(0), 0);
        due("where it was", x.figure(0, 1), 2);
        due("land", x.land(0), 1);
        due("face", x.undo(), 4);
        due("it faces", x.figure(0, 2), 0);
        due("open", x.undo(), 3);
        due("eyes", x.looker(0, 3), 1);
        due("shut", x.undo(), 2);
        due("eyes", x.looker(0, 3), 0);
        due("walk", x.undo(), 1);
        due("y", x.looker(0, 1), 0);
        due("turn", x.undo(), 0);
        due("side", x.looker(0, 2), 0);
        due("nothing", x.undo(), -1);
        for (int i = 0; i < 23; i++) {
            x.hours(1);
        }
        for (int i = 7; i >= 0; i--) {
            due("8 at most", x.undo(), i);
        }
        due("none is", x.undo(), -1);
        due("15 hours stay", x.now(0), 15);
        for (int i = 0; i < 19; i++) {
            x.hours(60);
        }
        due("hour 1000", x.now(0), 1000);
        due("no hours were left to some", x.undo(), 7);
        due("hour", x.now(0), 15 + 16 * 60);
        x.drawn(60, 1);
        x.drawn(60, 1);
        due("no drawn of none", x.undo(), 7);
        due("hour", x.now(0), 15 + 16 * 60);
    }

    private static void whereAndComes() {
        SeenToMove x = with("field 3 2; owner o; figure a o 0 0 east 1; looker m 1 1 south;");
        promise = 18;
        int[] due = {0, 1, 2, 2, 11, 11, 11, 2, 2, 2, 11, 11, 11};
        // At 2 0 it turns at the rim, at 2 1 at the rim and at m, back at 2 0 at the rim twice.
        for (int k = 0; k < due.length; k++) {
            due("where(0, " + k + ")", x.where(0, k), due[k]);
        }
        due("it stays", x.figure(0, 0) + x.now(0) + x.now(4), 0);
        due("where(0, 201)", x.where(0, 201), -1);
        due("where(0, -1)", x.where(0, -1), -1);
        due("where(1, 0)", x.where(1, 0) + x.where(-1, 0), -2);
        promise = 19;
        due("there", x.comes(0, 0, 0), 0);
        due("comes", x.comes(0, 2, 1), 4);
        due("never", x.comes(0, 1, 1), -1);
        due("no such ones", x.comes(0, 3, 0) + x.comes(0, 0, 2) + x.comes(0, -1, 0) + x.comes(1, 0, 0) + x.comes(-1, 0, 0), -5);
        SeenToMove late = with("field 9 9; owner o; figure a o 0 0 south 9;");
        // 8 cells down by hour 72, turns 81 west, 90 north: up from 99 to hour 162, turns east 171, 180 .. 198: x 3
        due("at 198", late.comes(0, 3, 0), 198);
        due("where in 200", late.where(0, 200), 3);
        due("not in 200", late.comes(0, 4, 0), -1);
        due("the first cell of the next row by its X", late.comes(0, 9, 0), -1);
        SeenToMove last = with("field 9 9; owner o; figure a o 0 0 south 8;");
        due("at 200", last.comes(0, 6, 0), 200);
        due("at 208", last.comes(0, 7, 0), -1);
        last.hours(7);
        due("at 201", last.comes(0, 7, 0), -1);
        last.hours(1);
        due("at 200", last.comes(0, 7, 0), 200);
        for (int i = 0; i < 17; i++) {
            late.hours(60);
        }
        promise = 18;
        due("hour 1000 no matter", late.where(0, 8) == late.where(0, 0) ? 0 : 1, 1);
    }

    private static void covers() {
        promise = 21;
        SeenToMove x = new SeenToMove();
        due("ahead of any", x.coverBy(0), -1);
        promise = 20;
        due("nobody", x.cover(), 0);
        SeenToMove y = with("field 5 5; owner o; figure a o 2 0 east 1; figure b o 0 2 east 1; figure c o 4 2 east 1; figure d o 4 3 east 1;"
            + "looker m 2 2 north; looker n 4 0 north; looker p 1 4 east 12 1;");
        promise = 20;
        due("m and n", y.cover(), 3);
        promise = 21;
        // n sees c and d to the south, so that m sees the first other: b (west) or a (north)
        due("m", y.coverBy(0), 2);
        due("n", y.coverBy(1), 1);
        due("p does not look", y.coverBy(2), 0);
        due("no such one", y.coverBy(3) + y.coverBy(-1), -2);
        y.shut(1);
        due("till the next", y.coverBy(1), 1);
        promise = 20;
        due("m alone", y.cover(), 1);
        promise = 21;
        due("the least side", y.coverBy(0), 0);
        due("n does not look", y.coverBy(1), 0);
        field(y, "looker z 0 0 east;");
        due("in the field that was then", y.coverBy(2), 0);
        y.cover();
        due("no such one now", y.coverBy(1), -1);
        due("no such one now", y.coverBy(0), 0);
    }

    private static void fews() {
        promise = 23;
        SeenToMove x = new SeenToMove();
        due("ahead of any", x.fewest(), -1);
        promise = 22;
        due("no figures", x.few(), 0);
        promise = 23;
        due("nobody", x.fewest(), 0);
        promise = 22;
        SeenToMove y = with("field 5 5; owner o; figure a o 2 0 east 1; figure b o 2 4 east 1; looker m 2 2 east; looker n 0 0 west 5 1; looker p 2 1 west;"
            + "looker q 0 4 north;");
        y.shut(0);
        y.shut(1);
        due("two, whatever the hour and their eyes", y.few(), 2);
        promise = 23;
        due("the least as bits", y.fewest(), 3);
        promise = 22;
        SeenToMove z = with("field 5 5; owner o; figure a o 2 0 east 1; figure b o 3 0 east 1; looker m 2 2 east; looker n 3 3 west; looker p 0 0 west;");
        due("one sees both", z.few(), 1);
        promise = 23;
        due("p", z.fewest(), 4);
        promise = 22;
        SeenToMove w = with("field 5 5; owner o; figure a o 2 0 east 1; figure b o 2 4 east 1; looker m 2 2 east; looker n 1 1 west;");
        due("not by all", w.few(), -1);
        promise = 23;
        due("ahead of any that was not NONE", w.fewest(), -1);
        field(z, "owner o; figure a o 0 0 east 1;");
        z.few();
        due("by the latest that was not NONE", z.fewest(), 4);
    }

    private static void blinds() {
        SeenToMove x = with("field 7 3; owner o; figure a o 0 0 east 1; looker m 6 0 west; looker n 0 2 north; looker p 6 1 west; looker q 1 2 north 0 12;");
        promise = 25;
        due("ahead of any", x.blinded(), -1);
        promise = 24;
        due("m and n for the first cell", x.blind(0, 1, 0, 1), 2);
        promise = 25;
        due("m and n", x.blinded(), 3);
        promise = 24;
        due("q sees it at 1 0", x.blind(0, 2, 0, 2), 3);
        promise = 25;
        due("m, n and q", x.blinded(), 11);
        promise = 24;
        due("q does not look from 12 on", x.blind(0, 2, 0, 13), 2);
        promise = 25;
        due("m and n", x.blinded(), 3);
        promise = 24;
        due("too few hours", x.blind(0, 2, 0, 1), -1);
        due("that it is there now counts behind an hour: it is seen", x.blind(0, 0, 0, 1), 0);
        promise = 25;
        due("nobody", x.blinded(), 0);
        promise = 24;
        x.shut(0);
        due("besides those that are", x.blind(0, 1, 0, 1), 1);
        promise = 25;
        due("n", x.blinded(), 2);
        promise = 24;
        due("no such ones", x.blind(1, 0, 0, 1) + x.blind(-1, 0, 0, 1) + x.blind(0, 7, 0, 1) + x.blind(0, 0, 3, 1)
            + x.blind(0, 0, 0, 0) + x.blind(0, 0, 0, 61) + x.blind(0, -1, 0, 1), -7);
        due("a cell where it never comes", x.blind(0, 0, 2, 60), -1);
        promise = 25;
        due("by the latest that was not NONE", x.blinded(), 2);
        promise = 24;
        SeenToMove y = with("field 7 3; owner o; figure a o 0 0 east 1;");
        due("there now is not enough", y.blind(0, 0, 0, 1), -1);
        due("behind 1 hour", y.blind(0, 1, 0, 1), 0);
        // behind 6 hours at 6 0, 7 turned, 9 at 6 2, 10 turned, 16 at 0 2, 17 turned, 19 at 0 0
        due("till it is there again", y.blind(0, 0, 0, 18), -1);
        due("till it is there again", y.blind(0, 0, 0, 19), 0);
        due("60 hours", y.blind(0, 0, 0, 60), 0);
        due("the first cell of the next row by its X", with("field 9 2; owner o; figure a o 0 0 south 1;").blind(0, 9, 0, 60), -1);
        for (int i = 0; i < 17; i++) {
            y.hours(60);
        }
        int next = y.where(0, 1) == y.where(0, 0) ? y.where(0, 2) : y.where(0, 1);
        due("hour 1000 no matter", y.blind(0, next % 9, next / 9, 2), 0);
    }

    private static void fitting() {
        SeenToMove x = with("field 6 5; owner o; hedge 3 0; figure a o 1 2 east 1; looker m 2 2 west;");
        promise = 27;
        due("ahead of any", x.fitsAt(0), -1);
        promise = 28;
        due("ahead of any", x.ask(), -1);
        promise = 26;
        due("one way", fits(x, 0, 2, 1, 2, 2, 2), 1);
        due("the tape", x.count(5), 0);
        promise = 27;
        due("east, each hour", x.fitsAt(0), 0);
        due("no other", x.fitsAt(1), -1);
        due("no other", x.fitsAt(-1), -1);
        promise = 28;
        due("one is left anyhow", x.ask(), 1);
        promise = 26;
        due("all that stay an hour", fits(x, 0, 2, 0, 2), 33);
        promise = 27;
        due("all but those of 1 that can go", x.fitsAt(0), 1);
        due("west turns, each hour", x.fitsAt(16), 18);
        due("the last", x.fitsAt(32), 35);
        due("no more", x.fitsAt(33), -1);
        promise = 26;
        due("a hedge on the way", fits(x, 2, 0, 2, 0, 2, 1), 2);
        promise = 27;
        due("east, each hour, turned at the hedge", x.fitsAt(0), 0);
        due("south, each second hour", x.fitsAt(1), 10);
        promise = 26;
        due("none", fits(x, 2, 2, 4, 4), 0);
        promise = 27;
        due("by the latest above 0", x.fitsAt(0), 0);
        promise = 26;
        due("beyond the rim", fits(x, 0, 0, 6, 0), -1);
        due("beyond the rim", fits(x, 0, 0, 0, 5), -1);
        due("a byte above 127", fits(x, 200, 0, 0, 1), -1);
        due("a hedge", fits(x, 2, 0, 3, 0), -1);
        due("half a pair", fits(x, 0, 0, 0, 0, 0), -1);
        due("the tape", x.count(5), 0);
        due("one cell", fits(x, 0, 0), -1);
        due("none", fits(x), -1);
        due("8 cells", fits(x, 0, 0, 0, 0, 0, 0, 0, 0, 0, 0, 0, 0, 0, 0, 0, 0), 17);
        due("9 cells", fits(x, 0, 0, 0, 0, 0, 0, 0, 0, 0, 0, 0, 0, 0, 0, 0, 0, 0, 0), -1);
        asking();
    }

    private static void asking() {
        promise = 28;
        SeenToMove x = with("field 9 9;");
        // In the middle for 8 hours: each side by 8 and 9 is left; by hour 8 those by 8 go to 4 cells, those by 9 stay:
        // 4 in one cell. By hour 9 those by 9 go, too: 2 in each of 4 cells.
        due("left", fits(x, 4, 4, 4, 4, 4, 4, 4, 4, 4, 4, 4, 4, 4, 4, 4, 4), 8);
        due("ask", x.ask(), 9);
        promise = 27;
        int[] left = {7, 8, 16, 17, 25, 26, 34, 35};
        for (int i = 0; i < 8; i++) {
            due("fitsAt(" + i + ")", x.fitsAt(i), left[i]);
        }
        promise = 28;
        fits(x, 9, 9, 9, 9);
        due("by the latest above 0", x.ask(), 9);
        field(x, "field 2 2;");
        due("what was told stays", x.ask(), 9);
        // Shut in by hedges, all stay by whatever hour.
        SeenToMove y = with("field 2 9; hedge 1 0; hedge 0 1;");
        due("shut in", fits(y, 0, 0, 0, 0), 36);
        due("no hour tells them: of like ones the first", y.ask(), 1);
    }

    private static void counts() {
        promise = 30;
        due("no figures", new SeenToMove().farthest(), -1);
        SeenToMove x = with("owner o; figure a o 0 0 east 2; figure b o 0 1 east 1; figure c o 0 2 east 1; looker m 5 5 west;");
        due("of like ones the first", x.farthest(), 0);
        x.hours(3);
        due("farthest", x.farthest(), 1);
        promise = 31;
        due("no figures", orThrows(() -> new SeenToMove().mean(0)), THROWS);
        due("7 by 3", x.mean(0) * 10 + x.mean(1), 73);
        due("another what", orThrows(() -> x.mean(2)), THROWS);
        due("another what", orThrows(() -> x.mean(-1)), THROWS);
        x.undo();
        due("0 by 1", x.mean(0) * 10 + x.mean(1), 1);
        x.hours(2);
        due("5 by 3", x.mean(0) * 10 + x.mean(1), 53);
        SeenToMove y = with("owner o; figure a o 0 0 east 1; figure b o 0 1 east 1; figure c o 0 2 east 9; figure d o 0 3 east 9;");
        y.hours(1);
        due("in least terms", y.mean(0) * 10 + y.mean(1), 12);
        y.hours(1);
        due("in least terms", y.mean(0) * 10 + y.mean(1), 11);
    }

    private static void lines() {
        promise = 33;
        SeenToMove x = with("field 9 9; owner o; figure dog o 8 7 west 1; figure abcdefg o 0 0 south 1; figure z o 1 0 north 1; looker m 5 0 west;");
        due("ahead of any", x.byteAt(0), -1);
        promise = 32;
        due("line(0)", x.line(0), 18);
        promise = 33;
        String[] due = {"dog at 8 7 to west", "abcdefg at 0 0 to south seen", "z at 1 0 to north seen"};
        for (int f = 0; f < 3; f++) {
            due("line(" + f + ") '" + line(x, f) + "'", line(x, f).equals(due[f]) ? 1 : 0, 1);
        }
        promise = 32;
        due("no such one", x.line(3) + x.line(-1), -2);
        promise = 33;
        due("the latest stays", x.byteAt(0), 'z');
        due("the last", x.byteAt(21), 'n');
        due("none such", x.byteAt(22) + x.byteAt(-1), -2);
        x.shut(0);
        due("the latest stays", x.byteAt(21), 'n');
        due("nobody sees it", line(x, 2).equals("z at 1 0 to north") ? 1 : 0, 1);
        x.face(0, 0);
        due("to east", line(x, 0).equals("dog at 8 7 to east") ? 1 : 0, 1);
    }

    private static void draws() {
        promise = 34;
        SeenToMove one = with("owner o; figure a o 0 0 east 1;");
        due("drawn(1, 0)", one.drawn(1, 0), 1);
        due("it goes", one.figure(0, 0), 1);
        SeenToMove x = with("owner o; figure a o 0 0 east 1; looker m 3 3 east; looker n 1 4 east;");
        due("not as told", x.drawn(0, 1) + x.drawn(61, 1) + x.drawn(-1, 1), -3);
        // Told again with the draws themselves: a run of the same acts must come to the same.
        SeenToMove y = with("owner o; figure a o 0 0 east 1; looker m 3 3 east; looker n 1 4 east;");
        int seed = 77;
        for (int hour = 0; hour < 60; hour++) {
            for (int l = 0; l < 2; l++) {
                seed = seed * 1103515245 + 12345;
                int what = (seed >>> 8) % 8;
                if (what < 4) {
                    y.turn(l, what);
                } else if (what == 4 && y.shut(l) != 0) {
                    y.open(l);
                } else if (what == 5) {
                    seed = seed * 1103515245 + 12345;
                    y.walk(l, (seed >>> 8) % 4);
                }
            }
            y.hours(1);
        }
        due("drawn(60, 77)", x.drawn(60, 77), 60);
        for (int what = 0; what < 8; what++) {
            due("figure(0, " + what + ")", x.figure(0, what), y.figure(0, what));
        }
        for (int what = 0; what < 6; what++) {
            due("looker(0, " + what + ")", x.looker(0, what), y.looker(0, what));
            due("looker(1, " + what + ")", x.looker(1, what), y.looker(1, what));
        }
        due("undone at once", x.undo(), 0);
        due("hour", x.now(0), 0);
        for (int i = 0; i < 16; i++) {
            x.drawn(60, i);
        }
        due("those that are left", x.drawn(60, 5), 40);
        due("none", x.drawn(60, 5), 0);
        promise = 35;
        due("none goes: all hours are over", x.odds(0, 30, 1), 0);
        oddsAreByDraws();
    }

    private static void oddsAreByDraws() {
        String text = "field 3 3; owner o; figure a o 1 1 east 9; figure b o 0 0 east 9; looker m 2 1 west; looker n 1 2 north; looker p 0 2 north; looker q 2 2 north;";
        SeenToMove x = with(text);
        due("not as told", x.odds(0, 0, 1) + x.odds(0, 31, 1) + x.odds(2, 1, 1) + x.odds(-1, 1, 1), -4);
        boolean some = false;
        for (int first : new int[] {1, 1000, -15, Integer.MAX_VALUE - 3}) {
            for (int f = 0; f < 2; f++) {
                int many = 0;
                for (int i = 0; i < 10; i++) {
                    x.drawn(20, first + i);
                    many += x.figure(f, 5) > 0 ? 1 : 0;
                    x.undo();
                }
                due("odds(" + f + ", 10, " + first + ")", x.odds(f, 10, first), many);
                some |= many > 0 && many < 10;
            }
        }
        due("some of the 10 go, not all", some, true);
        due("all stays", x.now(0) + x.now(4), 0);
        x.feed(0, 0, 0, 0, 0);
        x.hours(60);
        int before = x.figure(0, 5);
        x.odds(0, 30, 3);
        due("from now on", x.figure(0, 5) - before, 0);
        // Turned thrice: by 5 it goes in hour 20, by 7 (turned twice) in hour 21.
        SeenToMove y = with("field 3 3; owner o; hedge 0 0; hedge 1 1; figure a o 0 1 west 5; figure b o 2 0 north 7;");
        due("in the 20th hour", y.odds(0, 7, 1), 7);
        due("in the 21st hour", y.odds(1, 7, 1), 0);
        due("one seed", y.odds(0, 1, 1), 1);
    }

    private static void books() {
        SeenToMove x = with("field 4 4; owner o; figure a o 1 1 east 1; hedge 2 2; looker m 3 1 west; looker n 3 3 east;");
        promise = 37;
        due("ahead of any", x.told(0), -1);
        promise = 36;
        feed(x, "m shuts;");
        due("another lives", x.book(2), -1000);
        due("another lives", x.book(-1), -1000);
        due("the tape stays", x.count(5), 8);
        promise = 37;
        due("ahead of any", x.told(0), -1);
        promise = 36;
        due("judged", x.book(0), -1);
        due("all stays", x.looker(0, 3), 0);
        due("the tape", x.count(5), 0);
        String[] books = {"m turns west;", "n turns north; n turns north;", "n walks east;", "n walks north; n walks west;", "n walks north; n walks north;",
            "m shuts; m shuts;", "n opens;", "a faces east;", "m shuts; a faces east;", "hour 60; m turns east; n turns west; n turns north;", "hour 1; hour 1;"};
        int[][] due = {{0, 1, 0, 0}, {1, 1, 1, 0}, {0, 11, 0, 0}, {1, 12, 1, 0}, {1, 13, 1, 0}, {1, 21, 1, 0}, {0, 31, 0, 0}, {0, 41, 0, 0},
            {1, 42, 1, 0}, {-1, 0, 4, 60}, {-1, 0, 2, 2}};
        for (int i = 0; i < books.length; i++) {
            promise = 36;
            due("book " + books[i], book(x, books[i], 0), due[i][0]);
            promise = 37;
            for (int what = 0; what < 3; what++) {
                due("told(" + what + ") of " + books[i], x.told(what), due[i][what + 1]);
            }
        }
        due("told(4)", x.told(4) + x.told(-1), -2);
        promise = 36;
        due("lived as far as not wrong", book(x, "m shuts; hour 2; hour 1; m shuts; n turns west;", 1), 3);
        due("hour", x.now(0), 3);
        due("shut", x.looker(0, 3), 1);
        due("n stays", x.looker(1, 2), 0);
        promise = 37;
        due("why", x.told(0), 21);
        due("lines", x.told(1), 3);
        due("hour", x.told(2), 3);
        due("gone", x.told(3), 1);
        x.hours(1);
        due("told once", x.told(2), 3);
        promise = 17;
        x.undo();
        due("the book is undone whole", x.undo(), 0);
        due("hour", x.now(0), 0);
        promise = 36;
        for (int i = 0; i < 16; i++) {
            x.hours(60);
        }
        due("fewer hours are left", book(x, "hour 40; hour 1;", 0), 1);
        promise = 37;
        due("why", x.told(0), 51);
        due("hour", x.told(2), 1000);
        promise = 36;
        due("fewer hours are left", book(x, "m shuts; hour 41; m opens;", 1), 1);
        due("none of them go", x.now(0), 960);
        promise = 37;
        due("till then, all hours in all", x.told(3), x.now(4));
    }

    private static void bookFault(SeenToMove x, String text, int place, int kind) {
        promise = 36;
        due("book '" + text + "'", book(x, text, 1), -2 - place);
        due("the tape behind '" + text + "'", x.count(5), 0);
        due("nothing is lived of '" + text + "'", x.now(0) + x.looker(0, 3), 0);
        promise = 5;
        due("fault of '" + text + "'", x.fault(), kind);
        promise = 37;
        due("told stays", x.told(1), 1);
    }

    private static void bookFaults() {
        SeenToMove x = with("owner o; figure a o 1 1 east 1; looker m 3 1 west;");
        book(x, "m shuts;", 0);
        bookFault(x, ";", 0, 1);
        bookFault(x, "m", 1, 1);
        bookFault(x, "m shuts", 7, 1);
        bookFault(x, "m faces east;", 2, 1);
        bookFault(x, "a turns east;", 2, 1);
        bookFault(x, "a shuts;", 2, 1);
        bookFault(x, "m m;", 2, 1);
        bookFault(x, "m turns m;", 8, 1);
        bookFault(x, "m turns up;", 8, 1);
        bookFault(x, "m shuts; o shuts;", 9, 3);
        bookFault(x, "q shuts;", 0, 3);
        bookFault(x, "east shuts;", 0, 1);
        bookFault(x, "9 shuts;", 0, 1);
        bookFault(x, "hour 0;", 5, 2);
        bookFault(x, "hour 61;", 5, 2);
        bookFault(x, "hour m;", 5, 1);
        bookFault(x, "hour 1 1;", 7, 1);
        String forty = "hour 1;".repeat(40);
        bookFault(x, forty + "hour 0;", 280, 4);
        bookFault(x, forty + "m?;", 280, 4);
        bookFault(x, forty + "q shuts;", 280, 3);
        bookFault(x, forty + "o shuts;", 280, 3);
        bookFault(x, forty + "seen;", 280, 1);
        bookFault(x, "m shuts;" + blanks(393), 400, 1);
        bookFault(x, "m" + blanks(399) + "shuts;", 400, 1);
        bookFault(x, "m" + blanks(398) + "shuts;", 400, 1);
        bookFault(x, "m" + blanks(398) + "shutss;", 399, 1);
        promise = 5;
        feed(x, "m shuts;");
        x.book(7);
        due("a book() of -1000 leaves it", x.fault(), 1);
        due("40 lines", book(x, forty, 0), -1);
        due("fault()", x.fault(), 0);
        promise = 36;
        due("400 bytes", book(x, "m shuts;" + blanks(392), 0), -1);
    }

    private static void sentences() {
        SeenToMove x = with("owner red; owner blue; figure a red 0 0 east 1; figure b blue 0 1 east 2; figure c red 5 2 east 3; figure d blue 4 3 west 9;"
            + "looker m 5 1 west; looker n 4 5 north;");
        promise = 39;
        due("no sentence", x.said(-1) + x.said(0), -2);
        String[] texts = {"seen", "stuck", "moved", "of red", "by m", "by n", "gone < 1", "gone = 0", "gone > 0", "every < 2", "every = 3", "every > 2",
            "number < 2", "number = 3", "number > 0", "not seen", "seen and of red", "of red or by n", "of red and stuck or by m and not every > 2 or number = 3",
            "of red and (stuck or by m)", "not (of red or by m)", "not not seen", "not seen and of red", "number > 999"};
        int[] ones = {1, 1, 1, 1, 1, 1, 1, 1, 1, 1, 1, 1, 1, 1, 1, 2, 2, 2, 6, 4, 4, 3, 3, 1};
        int[] said = {10, 4, 0, 5, 2, 8, 15, 15, 0, 1, 4, 12, 3, 8, 14, 5, 0, 13, 14, 4, 8, 10, 5, 0};
        for (int i = 0; i < texts.length; i++) {
            promise = 38;
            due("sentence " + texts[i], sentence(x, texts[i]), ones[i]);
            due("the tape", x.count(5), 0);
            promise = 39;
            int many = 0;
            for (int f = 0; f < 4; f++) {
                if ((said[i] >> f & 1) == 1) {
                    due("said(" + many + ") of " + texts[i], x.said(many), f);
                    many++;
                }
            }
            due("said(-1) of " + texts[i], x.said(-1), many);
            due("none such of " + texts[i], x.said(many), -1);
            due("none such", x.said(-2) + x.said(Integer.MIN_VALUE), -2);
        }
        sentence(x, "moved and gone > 1");
        x.hours(3);
        due("what is so now", x.said(-1) * 10 + x.said(0), 10);
        sentence(x, "gone > 0 and not moved");
        SeenToMove y = with("field 2 2; owner o; figure a o 0 0 east 1;");
        sentence(y, "gone > 3 and not moved");
        y.hours(6);
        due("in another cell than at first", y.said(-1), 0);
        y.hours(1);
        due("back, and gone 4 cells", y.said(-1), 1);
        promise = 38;
        due("20 ones", sentence(x, "seen" + " or seen".repeat(19)), 20);
        due("8 within", sentence(x, "not not not not not not not seen"), 8);
        due("8 within", sentence(x, "(((((((seen)))))))"), 8);
        due("8 within twice", sentence(x, "(((((((seen))))))) or not not (not not not not stuck)"), 16);
    }

    private static void sentenceFault(SeenToMove x, String text, int place, int kind) {
        promise = 38;
        due("sentence '" + text + "'", sentence(x, text), -1 - place);
        due("the tape behind '" + text + "'", x.count(5), 0);
        due("the sentence stays behind '" + text + "'", x.said(-1), 1);
        promise = 5;
        due("fault of '" + text + "'", x.fault(), kind);
    }

    private static void sentenceFaults() {
        SeenToMove x = with("owner red; figure a red 0 0 east 1; looker m 5 1 west;");
        sentence(x, "of red");
        sentenceFault(x, "", 0, 1);
        sentenceFault(x, "  ", 2, 1);
        sentenceFault(x, ";", 0, 1);
        sentenceFault(x, "red", 0, 1);
        sentenceFault(x, "seen seen", 5, 1);
        sentenceFault(x, "seen)", 4, 1);
        sentenceFault(x, "(seen", 5, 1);
        sentenceFault(x, "(seen;", 5, 1);
        sentenceFault(x, "()", 1, 1);
        sentenceFault(x, "seen and", 8, 1);
        sentenceFault(x, "or seen", 0, 1);
        sentenceFault(x, "not", 3, 1);
        sentenceFault(x, "of", 2, 1);
        sentenceFault(x, "of m", 3, 3);
        sentenceFault(x, "of q", 3, 3);
        sentenceFault(x, "of seen", 3, 1);
        sentenceFault(x, "by red", 3, 3);
        sentenceFault(x, "by a", 3, 3);
        sentenceFault(x, "by 1", 3, 1);
        sentenceFault(x, "gone 1", 5, 1);
        sentenceFault(x, "gone <", 6, 1);
        sentenceFault(x, "gone < a", 7, 1);
        sentenceFault(x, "gone < 1000", 7, 1);
        sentenceFault(x, "gone <= 1", 6, 1);
        sentenceFault(x, "gone ( 1", 5, 1);
        sentenceFault(x, "seen" + " or seen".repeat(20), 4 + 19 * 8 + 4, 4);
        sentenceFault(x, "seen" + " or seen".repeat(19) + " or red", 4 + 19 * 8 + 4, 1);
        sentenceFault(x, "not not not not not not not not seen", 32, 4);
        sentenceFault(x, "((((((((seen))))))))", 8, 4);
        sentenceFault(x, "((((((((red))))))))", 8, 1);
        sentenceFault(x, "(((((((not seen)))))))", 11, 4);
        sentenceFault(x, "seen" + blanks(197), 200, 1);
        sentenceFault(x, blanks(198) + "seen", 200, 1);
        sentenceFault(x, blanks(198) + "seem", 198, 1);
        due("200 bytes", sentence(x, "seen" + blanks(196)), 1);
        due("fault()", x.fault(), 0);
    }

    private static void images() {
        promise = 41;
        SeenToMove x = with(PLAIN);
        due("nothing is kept", x.restore(0), false);
        due("no such one", x.restore(2), false);
        due("no such one", x.restore(-1), false);
        promise = 40;
        due("no such one", x.image(2), false);
        due("no such one", x.image(-1), false);
        x.hours(3);
        sentence(x, "of red");
        due("image(0)", x.image(0), true);
        x.hours(1);
        x.turn(0, 1);
        x.shut(0);
        promise = 17;
        due("an image is no act", x.undo(), 3);
        promise = 41;
        due("nothing is kept there", x.restore(1), false);
        x.cover();
        x.line(0);
        field(x, "field 9 9; owner o; figure z o 8 8 east 1; looker w 1 8 north;");
        due("no sentence", x.said(-1), -1);
        x.hours(1);
        promise = 40;
        due("image(1)", x.image(1), true);
        promise = 41;
        x.feed(0, 0, 0, 0, 0);
        due("restore(0)", x.restore(0), true);
        due("the tape stays", x.count(5), 20);
        due("wide", x.count(0), 6);
        due("hour", x.now(0), 3);
        due("side", x.looker(0, 2), 0);
        due("the dog", x.figure(0, 5), 3);
        due("land", x.land(0), 10);
        due("the sentence", x.said(-1) * 10 + x.said(0), 10);
        due("nothing to undo", x.undo(), -1);
        due("what was told last stays", x.byteAt(0), 'd');
        due("what was told last stays", x.coverBy(1), 0);
        x.hours(5);
        due("again", x.restore(0), true);
        due("hour", x.now(0), 3);
        due("grown since the first", x.grown(), 0);
        due("restore(1)", x.restore(1), true);
        due("wide", x.count(0), 9);
        due("no sentence", x.said(-1), -1);
        due("hour", x.now(0), 1);
        due("names", line(x, 0).startsWith("z at 8 8") ? 1 : 0, 1);
    }
}
