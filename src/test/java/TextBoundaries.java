/** The boundary cases of the texts: tokens, field, book, sentence, and their faults. */
final class TextBoundaries extends Boundary {
    private static final String PEOPLE = "owner o; figure a o 1 1 east 1; looker m 3 1 west;";
    private static final String FORTY = "hour 1;".repeat(40);
    private static final String TWENTY = "seen" + " or seen".repeat(19);
    private static final String[] TOLD_WORDS = {"field", "hedge", "owner", "land", "figure", "looker", "east", "south", "west", "north",
        "turns", "walks", "shuts", "opens", "faces", "hour", "or", "and", "not", "seen", "stuck", "moved", "of", "by", "gone", "every", "number"};

    private static void goodField(String text, int lines) {
        SeenToMove x = new SeenToMove();
        due("field() of '" + text + "'", field(x, text), lines);
        due("fault() of '" + text + "'", x.fault(), 0);
    }

    private static void goodBook(String text) {
        SeenToMove x = with(PEOPLE);
        due("book(0) of '" + text + "'", book(x, text, 0), NONE);
        due("fault() of '" + text + "'", x.fault(), 0);
    }

    private static void goodSentence(String text, int ones) {
        SeenToMove x = with(PEOPLE);
        due("sentence() of '" + text + "'", sentence(x, text), ones);
        due("fault() of '" + text + "'", x.fault(), 0);
    }

    /** The text without the ^, which stands at the place of the fault; so below. */
    private static String unmarked(String marked) {
        return marked.replace("^", "");
    }

    private static void badField(String marked, int kind) {
        SeenToMove x = new SeenToMove();
        due("field() of '" + marked + "'", field(x, unmarked(marked)), -1 - marked.indexOf('^'));
        due("fault() of '" + marked + "'", x.fault(), kind);
    }

    private static void badBook(String marked, int kind) {
        SeenToMove x = with(PEOPLE);
        due("book(0) of '" + marked + "'", book(x, unmarked(marked), 0), -2 - marked.indexOf('^'));
        due("fault() of '" + marked + "'", x.fault(), kind);
    }

    private static void badSentence(String marked, int kind) {
        SeenToMove x = with(PEOPLE);
        due("sentence() of '" + marked + "'", sentence(x, unmarked(marked)), -1 - marked.indexOf('^'));
        due("fault() of '" + marked + "'", x.fault(), kind);
    }

    // ---- TOKENS

    @Says(promise = {4, 36, 38}, under = TERMS, text = "with blanks (32, 10) between them or not")
    static void blanksBetweenOrNot() {
        goodField("\n owner \n\n a \n ;  land\na\n0\n;\n", 2);
        goodField("owner a;owner b;land b 0;", 3);
        goodBook("m turns east;hour 1;hour\n1\n;");
        goodSentence("(seen)or(stuck)and gone<1", 5);
        for (int other : new int[] {0, 9, 11, 13, 31, 33, 127, 138, 160}) {
            badField("owner^" + (char) other + "a;", 1);
        }
    }

    @Says(promise = {4, 36, 38}, under = TERMS, text = "WORDS: small letters, 1 to 7")
    static void wordsOfOneToSevenSmallLetters() {
        goodField("owner a; owner z; owner abcdefg; owner azzzzza;", 4);
        badField("owner ^abcdefgh;", 1);
        badField("owner ^A;", 1);
        badField("owner ^`;", 1);
        badField("owner ^{;", 1);
        badField("^ownership a;", 1);
        badBook("^mmmmmmmm shuts;", 1);
        badSentence("of ^oooooooo", 1);
        SeenToMove x = with("owner abcdefg; owner bcdefga; owner abcdefh; land abcdefh 0;");
        due("all seven letters count: the land", x.land(2), 6);
    }

    @Says(promise = {4, 36, 38}, under = TERMS, text = "NUMBERS: 1 to 3 digits")
    static void numbersOfOneToThreeDigits() {
        goodField("field 9 09;", 1);
        goodField("field 009 002;", 1);
        badField("field ^0009 2;", 1);
        badField("field 2 ^/;", 1);
        badField("field 2 ^:;", 1);
        goodBook("hour 060;");
        badBook("hour ^0060;", 1);
        goodSentence("gone<999", 1);
        badSentence("gone<^1000", 1);
    }

    @Says(promise = {4, 36, 38}, under = TERMS, text = "A WORD, NUMBER goes on as long as small letters and digits do")
    static void wordsAndNumbersGoOn() {
        badField("owner ^a1;", 1);
        badField("owner ^1a;", 1);
        badField("field 2 ^2owner a;", 1);
        badField("owner a^B;", 1);
        badField("^ownera;", 1);
        badBook("m turns ^east1;", 1);
        badSentence("gone<^1and seen", 1);
        badSentence("^seen1", 1);
    }

    @Says(promise = {4, 36, 38}, under = TERMS, text = "what is not as told is no TOKEN")
    static void othersAreNoTokens() {
        for (int sign : new int[] {'.', ',', ':', '?', '!', '-', '_', '\'', '*', ')' + 1, '<' - 2, '>' + 1, 128, 255, 'a' + 128, ';' + 128, '0' + 128}) {
            badField("owner a^" + (char) sign + ";", 1);
            badBook("m shuts^" + (char) sign + ";", 1);
            badSentence("seen ^" + (char) sign, 1);
            badField("land ^" + (char) sign + " 0;", 1);
            badBook("^" + (char) sign + " shuts;", 1);
            badSentence("of ^" + (char) sign, 1);
        }
    }

    // ---- A FIELD

    @Says(promise = 4, under = TERMS, text = "A FIELD is a text of at most 900 bytes")
    static void fieldOfAtMost900Bytes() {
        goodField("owner a;" + blanks(892), 1);
        goodField(blanks(892) + "owner a;", 1);
        badField("owner a;" + blanks(892) + "^ ", 1);
        badField(blanks(893) + "owner a^;", 1);
        badField("owner a;" + blanks(892) + "^" + blanks(40), 1);
    }

    @Says(promise = 4, under = TERMS, text = "{ LINE ; }. LINE:")
    static void fieldOfLinesEachWithItsEnd() {
        goodField("", 0);
        goodField(" \n", 0);
        goodField("owner a;", 1);
        badField("^;", 1);
        badField("owner a;^;", 1);
        badField("owner a^", 1);
        badField("owner a ^owner b;", 1);
    }

    @Says(promise = 4, under = TERMS, text = "'field' WIDE HIGH (2 to 9 each")
    static void wideAndHighOfTwoToNine() {
        SeenToMove x = with("field 2 9;");
        due("count(0)", x.count(0), 2);
        due("count(1)", x.count(1), 9);
        x = with("field 9 2;");
        due("count(0)", x.count(0), 9);
        due("count(1)", x.count(1), 2);
        badField("field ^1 5;", 2);
        badField("field ^0 5;", 2);
        badField("field ^10 5;", 2);
        badField("field 5 ^1;", 2);
        badField("field 5 ^10;", 2);
        badField("field 5 ^0;", 2);
    }

    @Says(promise = 4, under = TERMS, text = "once, ahead of all with X or Y")
    static void fieldOnceAndAheadOfAllWithXOrY() {
        goodField("owner a; field 9 9; hedge 8 8;", 3);
        badField("field 6 6; ^field 6 6;", 3);
        badField("field 5 5; owner a; ^field 5 5;", 3);
        badField("hedge 0 0; ^field 6 6;", 3);
        badField("owner a; land a 0; ^field 6 6;", 3);
        badField("owner a; figure b a 0 0 east 1; ^field 6 6;", 3);
        badField("looker a 0 0 east; ^field 6 6;", 3);
    }

    @Says(promise = 4, under = TERMS, text = "6 by 6 without)")
    static void sixBySixWithout() {
        SeenToMove x = with("field 9 2;");
        field(x, "hedge 5 5;");
        due("count(0)", x.count(0), 6);
        due("count(1)", x.count(1), 6);
        due("cell(5, 5, 0)", x.cell(5, 5, 0), 1);
        due("cell(6, 5, 0)", x.cell(6, 5, 0), NONE);
        due("cell(5, 6, 0)", x.cell(5, 6, 0), NONE);
        badField("hedge ^6 0;", 2);
        badField("hedge 0 ^6;", 2);
    }

    @Says(promise = 4, under = TERMS, text = "(the row Y is his; each row once)")
    static void landOfEachRowOnce() {
        SeenToMove x = with("field 5 4; owner a; owner b; land a 0; land b 3; land a 2;");
        due("land(0)", x.land(0), 10);
        due("land(1)", x.land(1), 5);
        due("cell(4, 0, 3)", x.cell(4, 0, 3), 0);
        due("cell(0, 1, 3)", x.cell(0, 1, 3), NONE);
        due("cell(0, 3, 3)", x.cell(0, 3, 3), 1);
        badField("owner a; owner b; land a 5; land b ^5;", 3);
        badField("owner a; land a 0; land a 1; land a ^0;", 3);
    }

    @Says(promise = 4, under = TERMS, text = "1 to 9 HOURS)")
    static void everyOfOneToNine() {
        due("every 1", with("owner a; figure b a 0 0 east 1;").figure(0, 4), 1);
        due("every 9", with("owner a; figure b a 0 0 east 9;").figure(0, 4), 9);
        badField("owner a; figure b a 0 0 east ^0;", 2);
        badField("owner a; figure b a 0 0 east ^10;", 2);
        badField("owner a; figure b a 0 0 east^;", 1);
    }

    @Says(promise = {4, 7}, under = TERMS, text = "0 to 23; 1 to 24 HOURS of the DAY from FROM on, all round; all without")
    static void hoursOfTheDay() {
        due("hours of 0 1", hoursLooked(" 0 1"), 1);
        due("hours of 23 1", hoursLooked(" 23 1"), 1 << 23);
        due("hours of 22 4, all round", hoursLooked(" 22 4"), 3 << 22 | 3);
        due("hours of 1 23", hoursLooked(" 1 23"), (1 << 24) - 2);
        due("hours of 0 24", hoursLooked(" 0 24"), (1 << 24) - 1);
        due("hours of 23 24", hoursLooked(" 23 24"), (1 << 24) - 1);
        due("all hours without", hoursLooked(""), (1 << 24) - 1);
        badField("looker a 0 0 east ^24 1;", 2);
        badField("looker a 0 0 east 0 ^0;", 2);
        badField("looker a 0 0 east 0 ^25;", 2);
        badField("looker a 0 0 east 0^;", 1);
        badField("looker a 0 0 east 0 1 ^1;", 1);
    }

    private static int hoursLooked(String hours) {
        SeenToMove x = with("looker m 0 0 east" + hours + ";");
        int bits = 0;
        for (int hour = 0; hour < 24; hour++) {
            bits |= x.looker(0, 4) << hour;
            x.hours(1);
        }
        return bits;
    }

    @Says(promise = 4, under = TERMS, text = "X 0 to WIDE less 1, Y 0 to HIGH less 1")
    static void cellsWithinTheField() {
        String[] lines = {"hedge ", "figure b a ", "looker c "};
        String[] behind = {";", " east 1;", " east;"};
        for (int i = 0; i < 3; i++) {
            String ahead = "field 3 4; owner a; " + lines[i];
            goodField(ahead + "0 0" + behind[i], 3);
            goodField(ahead + "2 3" + behind[i], 3);
            badField(ahead + "^3 0" + behind[i], 2);
            badField(ahead + "0 ^4" + behind[i], 2);
            badField(ahead + "^9 0" + behind[i], 2);
        }
        goodField("field 3 4; owner a; land a 0; land a 3;", 4);
        badField("field 3 4; owner a; land a ^4;", 2);
        goodField("field 9 9; hedge 8 8;", 2);
        badField("field 9 9; hedge ^9 0;", 2);
        SeenToMove x = with("field 3 4; hedge 0 0; hedge 2 3;");
        due("the first cell", x.cell(0, 0, 0), 1);
        due("the last cell", x.cell(2, 3, 0), 1);
        due("another one", x.cell(1, 0, 0) + x.cell(0, 1, 0) + x.cell(2, 2, 0), 0);
        x = with("field 9 9; owner a; land a 8; hedge 8 8;");
        due("the last cell there may be", x.cell(8, 8, 0), 1);
        due("the last row there may be", x.land(0), 9);
    }

    @Says(promise = 4, under = TERMS, text = "no two of hedges, FIGURES, LOOKERS are in one cell")
    static void oneInACell() {
        String[] first = {"hedge 1 2; ", "figure f o 1 2 east 1; ", "looker l 1 2 east; "};
        String[] ahead = {"hedge ", "figure g o ", "looker k "};
        String[] behind = {";", " east 1;", " east;"};
        for (int i = 0; i < 3; i++) {
            for (int j = 0; j < 3; j++) {
                String text = "owner o; " + first[i] + ahead[j];
                badField(text + "1 ^2" + behind[j], 3);
                goodField(text + "2 1" + behind[j], 3);
                goodField(text + "1 1" + behind[j], 3);
                goodField(text + "0 2" + behind[j], 3);
            }
        }
        badField("hedge 0 0; hedge 0 ^0;", 3);
        badField("field 9 9; hedge 8 8; looker m 8 ^8 east;", 3);
    }

    @Says(promise = {4, 6, 7}, under = TERMS, text = "SIDE: 'east', 'south', 'west', 'north', numbered from 0 (X more, Y more, X less, Y less)")
    static void sidesFromNoughtToThree() {
        String[] words = {"east", "south", "west", "north"};
        int[] next = {12, 20, 10, 2};
        for (int side = 0; side < 4; side++) {
            SeenToMove x = with("field 9 9; owner o; figure a o 2 1 " + words[side] + " 1; looker m 8 8 " + words[side] + ";");
            due("figure(0, 2) of " + words[side], x.figure(0, 2), side);
            due("looker(0, 2) of " + words[side], x.looker(0, 2), side);
            due("where(0, 1) of " + words[side], x.where(0, 1), next[side]);
        }
        badField("looker m 0 0 ^up;", 1);
        badField("looker m 0 0 ^field;", 1);
        badField("looker m 0 0 ^0;", 1);
    }

    @Says(promise = 4, under = TERMS, text = "NAME: a WORD, none of those told here, in a BOOK or a SENTENCE")
    static void namesAreNoneOfTheWordsTold() {
        for (String word : TOLD_WORDS) {
            badField("owner ^" + word + ";", 1);
            badField("owner o; figure ^" + word + " o 0 0 east 1;", 1);
            badField("looker ^" + word + " 0 0 east;", 1);
        }
        goodField("owner easts; owner ands; owner at; owner to; looker eas 0 0 east; looker numbe 1 0 east; looker cover 2 0 east;", 7);
    }

    @Says(promise = 4, under = TERMS, text = "told once. 4 OWNERS")
    static void namesAreToldOnce() {
        String[] first = {"owner n; ", "figure n o 0 0 east 1; ", "looker n 1 0 east; "};
        String[] second = {"owner ^n;", "figure ^n o 2 0 east 1;", "looker ^n 3 0 east;"};
        for (String ahead : first) {
            for (String behind : second) {
                badField("owner o; " + ahead + behind, 3);
            }
        }
        badField("owner o; figure ^o o 0 0 east 1;", 3);
    }

    @Says(promise = {4, 42}, under = TERMS, text = "4 OWNERS, 6 FIGURES, 5 LOOKERS at most, numbered from 0 each")
    static void fourOwnersSixFiguresFiveLookers() {
        String owners = "owner a; owner b; owner c; owner d; ";
        String figures = owners + "figure e a 0 0 east 1; figure f a 0 1 east 1; figure g a 0 2 east 1; figure h a 0 3 east 1; "
            + "figure i a 0 4 east 1; figure j d 0 5 east 9; ";
        String lookers = figures + "looker k 1 0 east; looker l 1 1 east; looker m 1 2 east; looker n 1 3 east; looker p 1 4 west; ";
        SeenToMove x = with(lookers + "land d 5;");
        due("count(2)", x.count(2), 4);
        due("count(3)", x.count(3), 6);
        due("count(4)", x.count(4), 5);
        due("the first figure's owner", x.figure(0, 3), 0);
        due("the last figure's owner", x.figure(5, 3), 3);
        due("the last figure's every", x.figure(5, 4), 9);
        due("the last looker's side", x.looker(4, 2), 2);
        due("the last owner's land", x.land(3), 6);
        due("who sees the last but one figure", x.figure(4, 6), 16);
        badField(owners + "^owner e;", 4);
        badField(figures + "^figure k a 1 5 east 1;", 4);
        badField(lookers + "^looker q 1 5 east;", 4);
    }

    // ---- A BOOK

    @Says(promise = 36, under = TERMS, text = "A BOOK is a text of at most 400 bytes")
    static void bookOfAtMost400Bytes() {
        goodBook("m shuts;" + blanks(392));
        goodBook(blanks(392) + "m shuts;");
        badBook("m shuts;" + blanks(392) + "^ ", 1);
        badBook(blanks(393) + "m shuts^;", 1);
    }

    @Says(promise = 36, under = TERMS, text = "{ LINE ; }, 40 at most")
    static void bookOfAtMost40Lines() {
        goodBook("");
        goodBook(" \n");
        badBook("^;", 1);
        badBook("m shuts;^;", 1);
        badBook("m shuts^", 1);
        SeenToMove x = with(PEOPLE);
        due("40 lines", book(x, FORTY, 0), NONE);
        due("all of them", x.told(1), 40);
        due("hours till then", x.told(2), 40);
        badBook(FORTY + "^hour 1;", 4);
    }

    @Says(promise = 36, under = TERMS, text = "'hour' N (1 to 60)")
    static void bookHourOfOneTo60() {
        goodBook("hour 1;");
        goodBook("hour 60;");
        badBook("hour ^0;", 2);
        badBook("hour ^61;", 2);
        badBook("hour^;", 1);
        badBook("hour ^m;", 1);
    }

    @Says(promise = 36, under = TERMS, text = "LOOKER ( 'turns' SIDE | 'walks' SIDE | 'shuts' | 'opens' ) | FIGURE 'faces' SIDE")
    static void bookLinesOfTheirOwnSort() {
        badBook("a ^turns east;", 1);
        badBook("a ^walks east;", 1);
        badBook("a ^shuts;", 1);
        badBook("a ^opens;", 1);
        badBook("m ^faces east;", 1);
        badBook("m turns^;", 1);
        badBook("m walks ^up;", 1);
        badBook("m shuts ^east;", 1);
        badBook("a faces ^1;", 1);
        badBook("a ^;", 1);
        badBook("m ^;", 1);
    }

    // ---- A SENTENCE

    @Says(promise = 38, under = TERMS, text = "A SENTENCE is a text of at most 200 bytes")
    static void sentenceOfAtMost200Bytes() {
        goodSentence("seen" + blanks(196), 1);
        goodSentence(blanks(196) + "seen", 1);
        badSentence("seen" + blanks(196) + "^ ", 1);
        badSentence(blanks(197) + "see^n", 1);
    }

    @Says(promise = 38, under = TERMS, text = "COND: ALL { 'or' ALL }. ALL: ONE { 'and' ONE }.")
    static void sentenceIsNeverEmpty() {
        badSentence("^", 1);
        badSentence(" \n^", 1);
        badSentence("(^)", 1);
        badSentence("^or seen", 1);
        badSentence("^and seen", 1);
        badSentence("seen or^", 1);
        badSentence("seen and ^or seen", 1);
        badSentence("seen ^seen", 1);
        badSentence("(seen^", 1);
        badSentence("seen^)", 1);
        badSentence("seen^;", 1);
        badSentence("not^", 1);
    }

    @Says(promise = 39, under = TERMS, text = "'stuck' (it could not go on now)")
    static void stuckAtTheRimAHedgeAFigureALooker() {
        SeenToMove x = with("field 4 5; owner o; figure a o 3 0 east 1; figure b o 0 1 east 1; hedge 1 1; figure c o 0 2 east 1; "
            + "figure d o 1 2 south 1; figure e o 0 3 east 1; looker m 1 4 east; figure f o 0 4 east 1;");
        sentence(x, "stuck");
        due("a, b, c and f", said(x), 1 | 2 | 4 | 32);
        sentence(x, "not stuck");
        due("d and e", said(x), 8 | 16);
    }

    /** The figures of which it may be said, as bits. */
    private static int said(SeenToMove x) {
        int bits = 0;
        for (int k = 0; k < x.said(NONE); k++) {
            bits |= 1 << x.said(k);
        }
        return bits;
    }

    @Says(promise = 39, under = TERMS, text = "'moved' (it is in another cell than at first)")
    static void movedOnlyIfInAnotherCell() {
        SeenToMove x = with("field 3 2; hedge 0 0; hedge 0 1; owner o; figure a o 1 0 north 1;");
        sentence(x, "moved");
        due("at first", said(x), 0);
        x.hours(1);
        due("turned alone", said(x), 0);
        x.hours(1);
        due("in another cell", said(x), 1);
        x.hours(6);
        due("in the first cell again, having gone " + x.figure(0, 5), said(x), 0);
        due("cells gone till then", x.figure(0, 5), 4);
        x.image(0);
        field(x, "owner o; figure a o 5 5 north 1;");
        x.restore(0);
        due("from the first cell of that field", said(x), 0);
    }

    @Says(promise = 39, under = TERMS, text = "'by' LOOKER (he sees it)")
    static void byOneWhoSeesIt() {
        SeenToMove x = with("owner o; figure a o 3 0 east 1; figure b o 2 5 south 9; looker k 0 5 east; looker m 0 0 east; looker n 3 5 north 1 1;");
        sentence(x, "by m");
        due("he sees a", said(x), 1);
        sentence(x, "by k");
        due("he sees b", said(x), 2);
        sentence(x, "by n");
        due("not his hour", said(x), 0);
        x.hours(1);
        due("his hour", said(x), 1);
        x.shut(2);
        due("shut", said(x), 0);
        sentence(x, "by m");
        due("he still sees a", said(x), 1);
    }

    @Says(promise = 39, under = TERMS, text = "( 'gone' | 'every' | 'number' ) SIGN NUMBER (how often it went a cell on so far; its number)")
    static void numbersBesideTheirBounds() {
        SeenToMove x = with("owner o; figure a o 0 0 east 1; figure b o 0 1 east 2; figure c o 0 2 east 4;");
        x.hours(4);
        String[] texts = {"gone < 2", "gone = 2", "gone > 2", "every < 2", "every = 2", "every > 2", "number < 1", "number = 1", "number > 1",
            "gone < 0", "gone > 0", "number < 0", "number = 0", "number > 999", "every < 999"};
        int[] due = {4, 2, 1, 1, 2, 4, 1, 2, 4, 0, 7, 0, 1, 0, 7};
        for (int i = 0; i < texts.length; i++) {
            sentence(x, texts[i]);
            due(texts[i], said(x), due[i]);
        }
    }

    @Says(promise = 39, under = TERMS, text = "COND: ALL { 'or' ALL }. ALL: ONE { 'and' ONE }. ONE: 'not' ONE | ( COND ) | 'seen'")
    static void sentencesUpTo20OnesAreSaidWhole() {
        // a is seen and of o, b seen and of p, c of o, d of p.
        SeenToMove x = with("owner o; owner p; figure a o 1 0 east 9; figure b p 2 0 east 9; figure c o 1 5 east 9; figure d p 2 5 east 9; looker m 0 0 east;");
        String[] texts = {"seen", "seen and of o", "seen or of o", "not seen and of o", "not (seen and of o)", "of p or seen and of o",
            "(of p or seen) and of o", "of o and seen or of p", "not not seen or not of o", "seen or of o and of p", "of o and of p or of p and seen",
            "of o and (seen)", "of p or (of o and (not seen))"};
        int[] due = {3, 1, 7, 4, 14, 11, 1, 11, 11, 3, 2, 1, 14};
        for (int i = 0; i < texts.length; i++) {
            sentence(x, texts[i]);
            due(texts[i], said(x), due[i]);
        }
        sentence(x, "moved or ".repeat(19) + "number = 3");
        due("the twentieth of 20 joined by or", said(x), 8);
        sentence(x, "seen and ".repeat(19) + "number < 1");
        due("the twentieth of 20 joined by and", said(x), 1);
        sentence(x, "number = 2" + " or moved".repeat(19));
        due("the first of 20 joined by or", said(x), 4);
        sentence(x, "not not not not not not not seen");
        due("seven nots", said(x), 12);
    }

    @Says(promise = 38, under = TERMS, text = "20 ONES, 8 within one another")
    static void twentyOnesAndEightWithin() {
        goodSentence(TWENTY, 20);
        badSentence(TWENTY + " or ^seen", 4);
        goodSentence("(((((((seen)))))))", 8);
        badSentence("((((((((^seen))))))))", 4);
        goodSentence("not not not not not not not seen", 8);
        badSentence("not not not not not not not not ^seen", 4);
        goodSentence("not (not (not (not seen)))", 8);
        badSentence("not (not (not (not (^seen))))", 4);
        goodSentence("(((((((seen))))))) and (((((((seen and seen or seen)))))))", 18);
    }

    // ---- FAULTS

    @Says(promise = {4, 5, 36, 38}, under = TERMS, text = "FAULTS, the first along the text")
    static void firstFaultAlongTheText() {
        badField("owner ^east; owner a; owner a;", 1);
        badField("field ^1 ?;", 2);
        badField("owner a; owner ^a; hedge 9 9; ?", 3);
        badField("owner a; owner b; owner c; owner d; ^owner 9;", 4);
        badField("hedge 1 1; hedge 1 ^1?", 3);
        badBook("hour ^0; q shuts;", 2);
        badBook(FORTY + "^hour 0;", 4);
        badSentence("of ^q and and", 3);
        badSentence("(seen and ^and gone < 1000", 1);
    }

    @Says(promise = {4, 5, 36, 38}, under = TERMS, text = "of one TOKEN the least")
    static void leastFaultOfOneToken() {
        badBook(FORTY + "^m1 shuts;", 1);
        badBook(FORTY + "^east;", 1);
        badBook(FORTY + "^7;", 1);
        badBook(FORTY + "^q shuts;", 3);
        badBook(FORTY + "^o shuts;", 3);
        badBook(FORTY + "^m shuts;", 4);
        badSentence(TWENTY + " or ^o", 1);
        badSentence(TWENTY + " or ^seen1", 1);
        badSentence(TWENTY + " or ^", 1);
        badSentence("((((((((^o", 1);
        badSentence("((((((((^or", 1);
    }

    @Says(promise = {4, 5, 36, 38}, under = TERMS, text = "1 no TOKEN, or one that can't come (at it")
    static void noTokenOrOneThatCantCome() {
        badField("^a;", 1);
        badField("^7;", 1);
        badField("^east;", 1);
        badField("^turns;", 1);
        badField("^seen;", 1);
        badField("owner ^1;", 1);
        badField("owner ^;", 1);
        badField("looker ^0 0 east;", 1);
        badField("field ^a 5;", 1);
        badField("hedge 1 ^east;", 1);
        badField("owner a; land ^0;", 1);
        badField("looker a 0 0 east ^b;", 1);
        badField("owner a; figure b ^east 0 0 east 1;", 1);
        badField("owner ^(;", 1);
        badBook("^9;", 1);
        badBook("^east shuts;", 1);
        badBook("^owner shuts;", 1);
        badBook("m ^m;", 1);
        badBook("m ^hour;", 1);
        badSentence("^o", 1);
        badSentence("^hour", 1);
        badSentence("^east", 1);
        badSentence("^<", 1);
        badSentence("of ^seen", 1);
        badSentence("by ^1", 1);
        badSentence("gone ^1", 1);
        badSentence("gone ^(1", 1);
        badSentence("gone <^= 1", 1);
        badSentence("gone < ^o", 1);
    }

    @Says(promise = {4, 5, 36, 38}, under = TERMS, text = "the end: how many bytes there are")
    static void faultAtTheEnd() {
        badField("owner^", 1);
        badField("owner  ^", 1);
        badField("owner a \n^", 1);
        badField("owner a" + blanks(893) + "^", 1);
        badBook("m^", 1);
        badBook("hour 1 ^", 1);
        badBook("m shuts" + blanks(393) + "^", 1);
        badSentence("  ^", 1);
        badSentence("seen and ^", 1);
        badSentence("not" + blanks(197) + "^", 1);
    }

    @Says(promise = {4, 5, 36, 38}, under = TERMS, text = "the most bytes told, if there are more and no FAULT is ahead")
    static void faultAtTheMostBytes() {
        badField("owner a" + blanks(893) + "^;", 1);
        badField("owner a" + blanks(893) + "^" + blanks(40), 1);
        badField("owner a;" + blanks(892) + "^owner b;", 1);
        badField("owner a;" + blanks(892) + "^?", 1);
        badField("owner a;" + blanks(891) + "^? ", 1);
        badField("owner ^east;" + blanks(920), 1);
        badField("field ^1 1;" + blanks(920), 2);
        badBook("m shuts" + blanks(393) + "^;", 1);
        badBook("m shuts;" + blanks(392) + "^" + blanks(500), 1);
        badBook("hour ^0;" + blanks(500), 2);
        badSentence("seen" + blanks(196) + "^" + blanks(500), 1);
        badSentence("seen" + blanks(196) + "^or seen", 1);
        badSentence("of ^q" + blanks(500), 3);
    }

    @Says(promise = {4, 5, 36, 38}, under = TERMS, text = "TOKENS that begin ahead of it are read whole")
    static void tokensAreReadWhole() {
        badField(blanks(897) + "own^er a;", 1);
        badField(blanks(897) + "^others a;", 1);
        badField("owner a; owner" + blanks(885) + "a^b;", 1);
        badField("owner a; owner" + blanks(885) + "^a;", 3);
        badField("field 9" + blanks(892) + "^99;", 2);
        badField("field 9" + blanks(892) + "9^;", 1);
        badBook("m" + blanks(397) + "sh^uts;", 1);
        badBook("m" + blanks(397) + "^shut;", 1);
        badBook("hour" + blanks(395) + "^61;", 2);
        badSentence(blanks(198) + "se^en", 1);
        badSentence(blanks(198) + "^seem", 1);
        badSentence("of" + blanks(197) + "^oo", 3);
    }

    @Says(promise = {4, 5, 36}, under = TERMS, text = "2 a NUMBER that is not as told (at it)")
    static void numberNotAsTold() {
        badField("field ^999 5;", 2);
        badField("field 5 ^999;", 2);
        badField("field 5 5; hedge ^5 0;", 2);
        badField("field 5 5; hedge 0 ^999;", 2);
        badField("owner a; land a ^6;", 2);
        badField("owner a; figure b a ^6 0 east 1;", 2);
        badField("owner a; figure b a 0 ^6 east 1;", 2);
        badField("owner a; figure b a 0 0 east ^999;", 2);
        badField("looker b ^6 0 east;", 2);
        badField("looker b 0 ^6 east;", 2);
        badField("looker b 0 0 east ^999 1;", 2);
        badField("looker b 0 0 east 1 ^999;", 2);
        badBook("hour ^999;", 2);
    }

    @Says(promise = {4, 5, 36, 38}, under = TERMS, text = "3 a NAME told twice, not told, or of another sort")
    static void nameToldTwiceNotToldOrOfAnotherSort() {
        badField("owner a; owner ^a;", 3);
        badField("land ^a 0;", 3);
        badField("land ^a 0; owner a;", 3);
        badField("figure b ^a 0 0 east 1; owner a;", 3);
        badField("owner a; figure b ^b 0 0 east 1;", 3);
        badField("looker a 0 0 east; land ^a 0;", 3);
        badField("owner a; figure b a 0 0 east 1; land ^b 0;", 3);
        badField("looker a 0 0 east; figure b ^a 1 0 east 1;", 3);
        badBook("^q shuts;", 3);
        badBook("^o shuts;", 3);
        badSentence("of ^q", 3);
        badSentence("of ^a", 3);
        badSentence("of ^m", 3);
        badSentence("by ^q", 3);
        badSentence("by ^a", 3);
        badSentence("by ^o", 3);
    }

    @Says(promise = {4, 5}, under = TERMS, text = "a cell in which there is something, a row of 'land' told again (at the Y)")
    static void cellOrRowToldAgainAtItsY() {
        badField("hedge 5 5; hedge 5 ^5;", 3);
        badField("hedge 5 5; hedge 5   ^05  ;", 3);
        badField("hedge 5 5; hedge 5 ^5", 3);
        badField("hedge 5 5; looker a 5 ^5 up;", 3);
        badField("owner a; land a 3; land a ^3;", 3);
        badField("owner a; land a 3; land a ^003 ?", 3);
    }

    @Says(promise = {4, 5}, under = TERMS, text = "'field' told again or behind a LINE with X or Y (at the WORD)")
    static void fieldToldAgainAtItsWord() {
        badField("field 5 5;  ^field 1 1;", 3);
        badField("hedge 0 0; ^field", 3);
        badField("looker a 0 0 east; ^field 99 99;", 3);
    }

    @Says(promise = {4, 5}, under = TERMS, text = "4 one more than there may be of a sort")
    static void oneMoreOfASortAtItsFirstWord() {
        badField("owner a; owner b; owner c; owner d;   ^owner a;", 4);
        badField("owner a; owner b; owner c; owner d; ^owner", 4);
        String lookers = "looker b 0 0 east; looker c 0 1 east; looker d 0 2 east; looker e 0 3 east; looker f 0 4 east; ";
        badField(lookers + "^looker b 0 0 up;", 4);
        String figures = "owner a; figure b a 0 0 east 1; figure c a 0 1 east 1; figure d a 0 2 east 1; figure e a 0 3 east 1; "
            + "figure f a 0 4 east 1; figure g a 0 5 east 1; ";
        badField(figures + "^figure b b 9 9 up 0;", 4);
        goodField(figures + "owner h; looker i 1 1 east; hedge 2 2;", 10);
    }

    @Says(promise = {5, 36}, under = TERMS, text = "a 41st LINE of a BOOK (at the LINE's first WORD)")
    static void fortyFirstLineAtItsFirstWord() {
        badBook(FORTY + "  ^hour 1;", 4);
        badBook(FORTY + "^m faces up;", 4);
        badBook(FORTY + "^a faces east;", 4);
        goodBook(FORTY + "   ");
    }

    @Says(promise = {5, 38}, under = TERMS, text = "a 21st ONE, a ninth within (at its first TOKEN)")
    static void twentyFirstOneAtItsFirstToken() {
        badSentence(TWENTY + " or ^(seen)", 4);
        badSentence(TWENTY + " or ^not seen", 4);
        badSentence(TWENTY + " or ^of q", 4);
        badSentence("((((((((^of q", 4);
        badSentence("((((((((^((seen", 4);
        badSentence("not ((((((( ^not seen", 4);
    }
}
