/** The boundary cases of the calls, promise by promise. */
final class CallBoundaries extends Boundary {
    private static final int[] NO_SIDES = {MIN, -1, 4, MAX};
    /** One owner of a row, a figure that m sees, another one that he does not, another looker: 5 lines. */
    private static final String FOUR = "owner o; land o 0; figure a o 2 0 east 1; figure b o 2 2 south 2; looker m 0 0 east; looker n 5 5 west 1 1;";

    /** Numbers of which there are none, if there are so many. */
    private static int[] beside(int many) {
        return new int[] {MIN, -1, many, MAX};
    }

    @Says(promise = {1, 16, 17}, under = WHAT_IT_IS, text = "An object is used for at most 512 calls after it has been made")
    static void objectStands512Calls() {
        SeenToMove x = with("field 9 9; owner o; figure a o 0 0 east 1; looker m 8 8 east;");
        // 7 calls for the field; 252 times two more; the last one is the 512th.
        for (int i = 0; i < 252; i++) {
            due("call " + (8 + 2 * i) + ", an act", i % 4 == 3 ? x.drawn(60, i) : i % 4 == 2 ? x.turn(0, 1) : i % 4 == 1 ? x.hours(60) : x.shut(0), i % 2 * 60);
            due("call " + (9 + 2 * i) + ", undo()", x.undo(), 0);
        }
        due("call 512", x.hours(60), 60);
    }

    @Says(promise = 1, text = "A FIELD of 6 by 6 without anything; an empty tape.")
    static void newObject() {
        SeenToMove x = new SeenToMove();
        int[] counts = {6, 6, 0, 0, 0, 0};
        for (int what = 0; what < 6; what++) {
            due("count(" + what + ")", x.count(what), counts[what]);
        }
        for (int what = 0; what < 5; what++) {
            due("now(" + what + ")", x.now(what), 0);
        }
        for (int cell = 0; cell < 36; cell++) {
            due("hedge in cell " + cell, x.cell(cell % 6, cell / 6, 0), 0);
            due("figure in cell " + cell, x.cell(cell % 6, cell / 6, 1), NONE);
            due("looker in cell " + cell, x.cell(cell % 6, cell / 6, 2), NONE);
            due("owner of cell " + cell, x.cell(cell % 6, cell / 6, 3), NONE);
        }
        due("cell(6, 5, 0)", x.cell(6, 5, 0), NONE);
        due("cell(5, 6, 0)", x.cell(5, 6, 0), NONE);
        due("undo()", x.undo(), NONE);
        due("said(NONE)", x.said(NONE), NONE);
        due("end(1)", x.end(1), false);
        due("the empty tape is a field", x.field(), 0);
    }

    @Says(promise = {2, 42}, text = "how many it has; NONE, and none come, if it would have more than 940.")
    static void feedUpTo940() {
        SeenToMove x = new SeenToMove();
        for (int i = 1; i <= 47; i++) {
            due("feed " + i, x.feed(0, 0, 0, 0, 0), 20 * i);
        }
        due("feed beyond 940", x.feed(1, 1, 1, 1, 1), NONE);
        due("count(5)", x.count(5), 940);
        x.end(921);
        due("feed to 941", x.feed(1, 1, 1, 1, 1), NONE);
        due("none come", x.count(5), 921);
        x.end(920);
        due("feed to 940", x.feed(1, 1, 1, 1, 1), 940);
        x.field();
        due("feed to the emptied tape", x.feed(1, 1, 1, 1, 1), 20);
    }

    @Says(promise = 2, text = "Twenty bytes come behind the tape, of each number the highest first")
    static void feedTheHighestByteFirst() {
        SeenToMove x = new SeenToMove();
        x.feed(0x6f776e65, 0x72206162, 0x63646566, 0x3b6f776e, 0x65722061);
        x.feed(0x62636465, 0x673b0000, 0, 0, 0);
        x.end(26);
        due("owner abcdef;owner abcdeg;", x.field(), 2);
        x.feed(0x6f776e65, 0x723b3b3b, 0x3b3b3b3b, 0x3b3b3b3b, 0x3b3b3b3b);
        x.end(5);
        x.feed(0x20613b3b, 0, 0, 0, 0);
        x.end(8);
        due("owner, and behind it: a;", x.field(), 1);
        // A byte from 128 on at the top of a number below 0.
        x.feed(0xe1000000, 0, 0, 0, 0);
        x.end(1);
        due("a byte of 225", x.field(), -1);
        due("fault()", x.fault(), 1);
    }

    @Says(promise = {3, 42}, text = "true; false, if it has not so many, or n is below 0.")
    static void endWithinTheTape() {
        SeenToMove x = new SeenToMove();
        due("end(0) of the empty tape", x.end(0), true);
        due("end(1) of the empty tape", x.end(1), false);
        feed(x, "owner a; owner b; owner c; ");
        for (int bad : new int[] {28, MAX, -1, MIN}) {
            due("end(" + bad + ")", x.end(bad), false);
            due("count(5)", x.count(5), 27);
        }
        due("as many as there are", x.end(27), true);
        due("count(5)", x.count(5), 27);
        due("end(17)", x.end(17), true);
        due("no more than these", x.end(18), false);
        due("the first bytes alone", x.field(), 2);
        feed(x, "seenabc");
        x.end(4);
        due("a word that is cut", x.sentence(), 1);
        feed(x, "gone=1000");
        x.end(8);
        due("a number that is cut", x.sentence(), 1);
    }

    @Says(promise = {4, 26, 36, 38, 42}, text = "(empty then, with a FAULT, too, here and below)")
    static void tapeIsEmptyThen() {
        String[] texts = {"owner a;", "owner a", "m shuts;", "m", "seen", "see", "\0\0\0\1", "\0\0\0"};
        int[] due = {1, -8, NONE, -3, 1, -1, 1, NONE};
        for (int i = 0; i < texts.length; i++) {
            SeenToMove x = with("looker m 5 5 east;");
            feed(x, texts[i]);
            int got = i < 2 ? x.field() : i < 4 ? x.book(i - 2) : i < 6 ? x.sentence() : x.fits();
            due("what is told of text " + i, got, due[i]);
            due("the tape behind text " + i, x.count(5), 0);
            due("end(1) behind text " + i, x.end(1), false);
        }
    }

    @Says(promise = 4, text = "-1 less the place of a FAULT: it stays.")
    static void fieldStaysWithAFault() {
        SeenToMove x = with(FOUR);
        x.hours(2);
        x.shut(1);
        sentence(x, "of o");
        String before = allThatIsSo(x);
        due("a fault at 0", field(x, "a; owner b;"), -1);
        String last = "field 2 2; owner a; figure z a 0 0 east 1; hedge 1 1; looker y 1 1 east;";
        due("a fault in the last line", field(x, last), -1 - last.lastIndexOf("1 east"));
        due("what is so", allThatIsSo(x), before);
        due("both acts can be undone", x.undo(), 1);
    }

    @Says(promise = 5, text = "(a book() of -1000 leaves it); 0 without one and ahead of any.")
    static void faultOfTheLatest() {
        SeenToMove x = new SeenToMove();
        due("ahead of any", x.fault(), 0);
        field(x, "hedge 0 9;");
        due("of a field", x.fault(), 2);
        feed(x, "m");
        for (int lives : new int[] {MIN, -1, 2, MAX}) {
            due("book(" + lives + ")", x.book(lives), -1000);
            due("fault() behind it", x.fault(), 2);
        }
        due("of a book", x.book(0), -2);
        due("of a book", x.fault(), 3);
        fits(x, 0);
        due("fits() leaves it", x.fault(), 3);
        sentence(x, "seen" + " or seen".repeat(20));
        due("of a sentence", x.fault(), 4);
        sentence(x, "seen");
        due("of a sentence without one", x.fault(), 0);
        book(x, "hour;", 0);
        due("of a book", x.fault(), 1);
        book(x, "", 0);
        due("of a book without one", x.fault(), 0);
        sentence(x, "");
        due("of a sentence", x.fault(), 1);
        field(x, "");
        due("of a field without one", x.fault(), 0);
    }

    @Says(promise = 6, text = "NoSuchElementException: no such ones.")
    static void figureOfNoSuchOnes() {
        SeenToMove x = with(FOUR);
        for (int bad : beside(2)) {
            due("figure(" + bad + ", 0)", orThrows(() -> x.figure(bad, 0)), THROWS);
            due("figure(" + bad + ", 7)", orThrows(() -> x.figure(bad, 7)), THROWS);
        }
        for (int bad : beside(8)) {
            due("figure(0, " + bad + ")", orThrows(() -> x.figure(0, bad)), THROWS);
        }
        due("figure(1, 0)", x.figure(1, 0), 2);
        due("figure(1, 7)", x.figure(1, 7), 1);
        SeenToMove none = new SeenToMove();
        due("without figures", orThrows(() -> none.figure(0, 0)), THROWS);
    }

    @Says(promise = 7, text = "5 FIGURES that he SEES, as bits. NONE: no such ones.")
    static void lookerOfNoSuchOnes() {
        SeenToMove x = with(FOUR);
        for (int bad : beside(2)) {
            due("looker(" + bad + ", 0)", x.looker(bad, 0), NONE);
        }
        for (int bad : beside(6)) {
            due("looker(0, " + bad + ")", x.looker(0, bad), NONE);
        }
        due("looker(1, 0)", x.looker(1, 0), 5);
        due("looker(0, 5)", x.looker(0, 5), 1);
        due("without lookers", new SeenToMove().looker(0, 0), NONE);
    }

    @Says(promise = 8, text = "3 whose it is (NONE each). NONE, too: no such ones.")
    static void cellOfNoSuchOnes() {
        SeenToMove x = with("field 5 4; owner o; hedge 4 3; figure a o 0 3 east 1; looker m 4 0 west; land o 1;");
        int[][] cells = {{4, 3}, {0, 3}, {4, 0}, {0, 1}};
        int[][] due = {{1, NONE, NONE, NONE}, {0, 0, NONE, 0}, {0, NONE, 0, NONE}, {0, NONE, NONE, 0}};
        for (int what = 0; what < 4; what++) {
            for (int i = 0; i < 4; i++) {
                due("cell(" + cells[i][0] + ", " + cells[i][1] + ", " + what + ")", x.cell(cells[i][0], cells[i][1], what), due[i][what]);
            }
            for (int bad : beside(5)) {
                due("cell(" + bad + ", 0, " + what + ")", x.cell(bad, 0, what), NONE);
            }
            for (int bad : beside(4)) {
                due("cell(0, " + bad + ", " + what + ")", x.cell(0, bad, what), NONE);
            }
        }
        for (int bad : beside(4)) {
            due("cell(4, 3, " + bad + ")", x.cell(4, 3, bad), NONE);
        }
    }

    @Says(promise = 9, text = "4 how often all went a cell on so far. NONE for another what.")
    static void nowOfAnotherWhat() {
        SeenToMove x = with(FOUR);
        for (int bad : beside(5)) {
            due("now(" + bad + ")", x.now(bad), NONE);
        }
        due("now(4)", x.now(4), 0);
    }

    @Says(promise = 10, text = "How many cells are an OWNER's; NONE: no such one.")
    static void landOfNoSuchOne() {
        SeenToMove x = with("owner o; owner p; land o 0;");
        due("land(0)", x.land(0), 6);
        due("an owner without any", x.land(1), 0);
        for (int bad : beside(2)) {
            due("land(" + bad + ")", x.land(bad), NONE);
        }
        due("without owners", new SeenToMove().land(0), NONE);
    }

    @Says(promise = 11, text = "A LOOKER TURNS to a SIDE (0 to 3): 0, or why not; NONE: no such ones.")
    static void turnOfNoSuchOnes() {
        SeenToMove x = with(FOUR);
        String before = allThatIsSo(x);
        for (int bad : beside(2)) {
            due("turn(" + bad + ", 1)", x.turn(bad, 1), NONE);
        }
        for (int bad : NO_SIDES) {
            due("turn(0, " + bad + ")", x.turn(0, bad), NONE);
        }
        due("what is so", allThatIsSo(x), before);
        due("nothing to undo", x.undo(), NONE);
        due("turn(1, 3)", x.turn(1, 3), 0);
        due("turn(1, 0)", x.turn(1, 0), 0);
    }

    @Says(promise = 12, text = "He WALKS to a SIDE: 0, or why not; NONE: no such ones.")
    static void walkOfNoSuchOnes() {
        SeenToMove x = with(FOUR);
        String before = allThatIsSo(x);
        for (int bad : beside(2)) {
            due("walk(" + bad + ", 1)", x.walk(bad, 1), NONE);
        }
        for (int bad : NO_SIDES) {
            due("walk(0, " + bad + ")", x.walk(0, bad), NONE);
        }
        due("what is so", allThatIsSo(x), before);
        due("nothing to undo", x.undo(), NONE);
        due("walk(1, 3)", x.walk(1, 3), 0);
        due("walk(0, 0)", x.walk(0, 0), 0);
    }

    @Says(promise = 13, text = "His eyes are SHUT: 0, or why not; NONE: no such one.")
    static void shutOfNoSuchOne() {
        SeenToMove x = with(FOUR);
        for (int bad : beside(2)) {
            due("shut(" + bad + ")", x.shut(bad), NONE);
        }
        due("nothing to undo", x.undo(), NONE);
        due("shut(1)", x.shut(1), 0);
        due("shut(1)", x.shut(1), 1);
    }

    @Says(promise = 14, text = "They are OPENED: 0, or why not; NONE: no such one.")
    static void openOfNoSuchOne() {
        SeenToMove x = with(FOUR);
        for (int bad : beside(2)) {
            due("open(" + bad + ")", x.open(bad), NONE);
        }
        due("nothing to undo", x.undo(), NONE);
        due("open(1)", x.open(1), 1);
        x.shut(1);
        due("open(1)", x.open(1), 0);
    }

    @Says(promise = 15, text = "A FIGURE is FACED to a SIDE: 0, or why not; NONE: no such ones.")
    static void faceOfNoSuchOnes() {
        SeenToMove x = with(FOUR);
        String before = allThatIsSo(x);
        for (int bad : beside(2)) {
            due("face(" + bad + ", 1)", x.face(bad, 1), NONE);
        }
        for (int bad : NO_SIDES) {
            due("face(0, " + bad + "), though it is seen", x.face(0, bad), NONE);
            due("face(1, " + bad + ")", x.face(1, bad), NONE);
        }
        due("what is so", allThatIsSo(x), before);
        due("nothing to undo", x.undo(), NONE);
        due("face(1, 3)", x.face(1, 3), 0);
        due("face(1, 0)", x.face(1, 0), 0);
    }

    @Says(promise = 16, text = "n (1 to 60) HOURS go by: how many did; NONE: not as told.")
    static void hoursOfOneTo60() {
        SeenToMove x = with(FOUR);
        for (int bad : new int[] {MIN, -1, 0, 61, MAX}) {
            due("hours(" + bad + ")", x.hours(bad), NONE);
        }
        due("now(0)", x.now(0), 0);
        due("hours(1)", x.hours(1), 1);
        due("hours(60)", x.hours(60), 60);
        due("now(0)", x.now(0), 61);
        SeenToMove late = withHour(FOUR, 960);
        due("39 of 40", late.hours(39), 39);
        due("one is left", late.hours(2), 1);
        due("none is left", late.hours(1), 0);
        due("not as told, though none is left", late.hours(0), NONE);
    }

    @Says(promise = 17, text = "that was done, hours() above 0, drawn() above 0, a BOOK of which some LINE was lived is undone")
    static void onlyWhatWasDoneIsUndone() {
        SeenToMove x = withHour(FOUR, 1000);
        for (int i = 0; i < 8; i++) {
            x.undo();
        }
        due("8 were kept", x.undo(), NONE);
        for (int i = 0; i < 9; i++) {
            x.hours(60);
        }
        due("as far as hour 1000", x.now(0), 1000);
        for (int i = 0; x.undo() >= 0 && i < 9; i++) {
            due("some hours less", x.now(0) < 1000, true);
        }
        SeenToMove y = with(FOUR);
        y.turn(0, 0);
        y.walk(0, 3);
        y.open(0);
        y.face(0, 1);
        y.face(1, 1);
        y.hours(0);
        y.hours(61);
        y.drawn(0, 1);
        y.drawn(61, 1);
        due("refused acts", y.undo(), NONE);
        book(y, "m opens; m shuts;", 1);
        book(y, "m shuts;", 0);
        book(y, "m shuts; m", 1);
        book(y, "", 1);
        due("books of which no line was lived", y.undo(), NONE);
        due("a book of which one line was lived", book(y, "m shuts; m shuts; n shuts;", 1), 1);
        due("looker(0, 3)", y.looker(0, 3), 1);
        due("is undone", y.undo(), 0);
        due("looker(0, 3)", y.looker(0, 3), 0);
        SeenToMove late = withHour(FOUR, 1000);
        due("hours() of 0", late.hours(1), 0);
        due("drawn() of 0", late.drawn(1, 1), 0);
        due("a book without an hour left", book(late, "hour 1;", 1), 0);
        due("the hours ahead of them are undone", late.undo(), 7);
        due("now(0)", late.now(0), 960);
    }

    @Says(promise = 17, text = "how many more can be (8 at most are kept); NONE: none is.")
    static void undoOfEightAtMost() {
        SeenToMove x = with(FOUR);
        due("none", x.undo(), NONE);
        for (int acts : new int[] {1, 7, 8, 9, 20}) {
            int first = x.now(0);
            for (int i = 0; i < acts; i++) {
                x.hours(1);
            }
            int kept = Math.min(acts, 8);
            for (int i = kept - 1; i >= 0; i--) {
                due("of " + acts + " acts, undo()", x.undo(), i);
            }
            due("of " + acts + " acts, no more", x.undo(), NONE);
            due("of " + acts + " acts, now(0)", x.now(0), first + acts - kept);
        }
    }

    @Says(promise = 17, text = "The latest of turn(), walk(), shut(), open(), face()")
    static void undoOfEachSort() {
        for (int undone = 1; undone <= 8; undone++) {
            SeenToMove x = with(FOUR);
            SeenToMove y = with(FOUR);
            for (int act = 0; act < 8; act++) {
                due("act " + act, doAct(x, act), true);
                if (act < 8 - undone) {
                    doAct(y, act);
                }
            }
            for (int i = 1; i <= undone; i++) {
                due("undo()", x.undo(), 8 - i);
            }
            due("what is so, " + undone + " of 8 acts undone", allThatIsSo(x), allThatIsSo(y));
        }
    }

    private static boolean doAct(SeenToMove x, int act) {
        switch (act) {
            case 0: return x.turn(0, 1) == 0;
            case 1: return x.walk(0, 1) == 0;
            case 2: return x.shut(0) == 0;
            case 3: return x.open(0) == 0;
            case 4: return x.face(0, 1) == 0;
            case 5: return x.hours(2) == 2;
            case 6: return x.drawn(3, 9) == 3;
            default: return book(x, "hour 1; hour 1; n turns east; n turns east;", 1) >= 2;
        }
    }

    @Says(promise = 18, text = "WHERE a FIGURE is in k (0 to 200) HOURS: 9 by Y and X; NONE: no such ones.")
    static void whereIn0To200() {
        SeenToMove x = with("field 9 9; owner o; figure a o 0 0 south 8; figure b o 8 8 east 9;");
        for (int bad : new int[] {MIN, -1, 201, MAX}) {
            due("where(0, " + bad + ")", x.where(0, bad), NONE);
        }
        for (int bad : beside(2)) {
            due("where(" + bad + ", 0)", x.where(bad, 0), NONE);
        }
        due("where(0, 0)", x.where(0, 0), 0);
        due("where(1, 0)", x.where(1, 0), 80);
        // 8 cells south, west is the rim, 8 cells north, 6 cells east behind 8 turns and goes each.
        due("where(0, 199)", x.where(0, 199), 5);
        due("where(0, 200)", x.where(0, 200), 6);
        due("it stays", x.now(0) + x.now(4), 0);
    }

    @Says(promise = 19, text = "HOURS (0: it is there); NONE: not in 200, no such ones.")
    static void comesIn0To200() {
        SeenToMove x = with("field 9 9; owner o; figure a o 0 0 south 8; figure b o 8 8 east 9;");
        due("it is there", x.comes(0, 0, 0), 0);
        due("behind 8", x.comes(0, 0, 1), 8);
        due("behind 200", x.comes(0, 6, 0), 200);
        due("behind 208", x.comes(0, 7, 0), NONE);
        x.hours(7);
        due("behind 201", x.comes(0, 7, 0), NONE);
        x.hours(1);
        due("behind 200", x.comes(0, 7, 0), 200);
        for (int bad : beside(2)) {
            due("comes(" + bad + ", 0, 0)", x.comes(bad, 0, 0), NONE);
        }
        for (int bad : beside(9)) {
            due("comes(0, " + bad + ", 0)", x.comes(0, bad, 0), NONE);
            due("comes(0, 0, " + bad + ")", x.comes(0, 0, bad), NONE);
        }
        due("a cell beyond the rim of a small field", with("field 3 2; owner o; figure a o 0 0 east 1;").comes(0, 0, 2), NONE);
        SeenToMove y = with("field 9 2; owner o; figure a o 0 0 south 1;");
        due("the first cell of a row by the row ahead", y.comes(0, 9, 0), NONE);
        due("a cell with a hedge", with("field 3 2; hedge 1 0; owner o; figure a o 0 0 east 1;").comes(0, 1, 0), NONE);
    }

    @Says(promise = 20, text = "COVER: how many FIGURES.")
    static void coverOfNone() {
        due("without anybody", new SeenToMove().cover(), 0);
        due("without lookers", with("owner o; figure a o 0 0 east 1;").cover(), 0);
        due("without figures", with("looker m 0 0 east;").cover(), 0);
        SeenToMove x = with("field 9 2; owner o; figure a o 0 0 east 9; figure b o 1 0 east 9; figure c o 2 0 east 9; figure d o 3 0 east 9; "
            + "figure e o 4 0 east 9; figure f o 8 1 east 9; looker m 8 0 north; looker n 7 0 west;");
        due("all six", x.cover(), 6);
        due("coverBy(0)", x.coverBy(0), 1);
        due("coverBy(1)", x.coverBy(1), 2);
        due("they do not turn", x.looker(0, 2) * 10 + x.looker(1, 2), 32);
    }

    @Says(promise = 21, text = "by the latest cover(); NONE: no such one in the FIELD that was then, or ahead of any.")
    static void coverByOfTheFieldThatWasThen() {
        SeenToMove x = with(FOUR);
        due("ahead of any", x.coverBy(0), NONE);
        x.cover();
        for (int bad : beside(2)) {
            due("coverBy(" + bad + ")", x.coverBy(bad), NONE);
        }
        due("coverBy(1)", x.coverBy(1), 0);
        field(x, "owner o; figure a o 0 5 east 1; looker p 5 5 east; looker q 4 4 east; looker r 3 3 east;");
        due("of the field that was then", x.coverBy(1), 0);
        due("there were two then", x.coverBy(2), NONE);
        x.cover();
        due("p sees a", x.coverBy(0), 2);
        due("three now", x.coverBy(2), 0);
        field(x, "");
        due("three then", x.coverBy(2), 0);
        x.cover();
        due("none now", x.coverBy(0), NONE);
        field(x, "owner o; figure a o 5 0 east 1; figure b o 0 5 east 1; looker p 5 5 east; looker q 0 0 west;");
        due("both", x.cover(), 2);
        field(x, "owner o; figure a o 5 0 east 1; figure b o 0 5 east 1; looker p 5 5 east;");
        due("one of both, as there is one looker now", x.cover(), 1);
    }

    @Says(promise = 22, text = "(0: there are no FIGURES); NONE: not by all.")
    static void fewOfNoFigures() {
        due("without anybody", new SeenToMove().few(), 0);
        due("without figures", with("looker m 0 0 east; looker n 1 0 east;").few(), 0);
        due("without lookers", with("owner o; figure a o 0 0 east 1;").few(), NONE);
        due("by none of them", with("owner o; figure a o 0 0 east 1; looker m 1 1 east;").few(), NONE);
        due("he can look to one side alone", with("owner o; figure a o 2 0 east 1; figure b o 0 2 east 1; looker m 2 2 east;").few(), NONE);
        SeenToMove five = with("owner o; figure a o 0 0 east 1; figure b o 1 1 east 1; figure c o 2 2 east 1; figure d o 3 3 east 1; figure e o 4 4 east 1; "
            + "looker k 0 5 east; looker l 1 5 east; looker m 2 5 east; looker n 3 5 east; looker p 4 5 east;");
        due("all five", five.few(), 5);
        due("fewest()", five.fewest(), 31);
    }

    @Says(promise = 23, text = "Who, as bits, by the latest few() that was not NONE; NONE ahead of any.")
    static void fewestByTheLatest() {
        SeenToMove x = with("owner o; figure a o 0 0 east 1; looker m 5 5 east; looker n 5 0 east;");
        due("ahead of any", x.fewest(), NONE);
        x.few();
        due("n", x.fewest(), 2);
        x.walk(1, 1);
        due("not by all", x.few(), NONE);
        due("by the latest that was not NONE", x.fewest(), 2);
        field(x, "");
        due("in another field, too", x.fewest(), 2);
        x.few();
        due("nobody", x.fewest(), 0);
        SeenToMove y = with("owner o; figure a o 0 0 east 1; looker m 1 1 east;");
        y.few();
        due("ahead of any that was not NONE", y.fewest(), NONE);
    }

    @Says(promise = 24, text = "BLIND of a FIGURE to a cell for n (1 to 60): how many LOOKERS; NONE: by none of them, no such ones.")
    static void blindFor1To60() {
        SeenToMove x = with("field 9 9; owner o; figure a o 0 0 east 9; figure b o 0 8 east 1; looker m 4 4 east;");
        for (int bad : beside(2)) {
            due("blind(" + bad + ", 1, 0, 60)", x.blind(bad, 1, 0, 60), NONE);
            due("blind(" + bad + ", 0, 0, 60)", x.blind(bad, 0, 0, 60), NONE);
        }
        for (int bad : beside(9)) {
            due("blind(0, " + bad + ", 0, 60)", x.blind(0, bad, 0, 60), NONE);
            due("blind(0, 0, " + bad + ", 60)", x.blind(0, 0, bad, 60), NONE);
        }
        for (int bad : new int[] {MIN, -1, 0, 61, MAX}) {
            due("blind(0, 1, 0, " + bad + ")", x.blind(0, 1, 0, bad), NONE);
        }
        due("not in 1", x.blind(0, 1, 0, 1), NONE);
        due("in 1", x.blind(1, 1, 8, 1), 0);
        due("not in 8", x.blind(0, 1, 0, 8), NONE);
        due("in 9", x.blind(0, 1, 0, 9), 0);
        due("in 54 of 60", x.blind(0, 6, 0, 60), 0);
        due("not in 60, but in 63", x.blind(0, 7, 0, 60), NONE);
        x.hours(3);
        due("in 60", x.blind(0, 7, 0, 60), 0);
        due("not in 59", x.blind(0, 7, 0, 59), NONE);
        due("a looker's cell", x.blind(0, 4, 4, 60), NONE);
        SeenToMove y = with("field 9 2; owner o; figure a o 0 0 south 1;");
        due("the first cell of a row by the row ahead", y.blind(0, 9, 0, 60), NONE);
        due("the last cell of a row by the row behind", y.blind(0, -1, 1, 60), NONE);
    }

    @Says(promise = 25, text = "Who, as bits, by the latest blind() that was not NONE; NONE ahead of any.")
    static void blindedByTheLatest() {
        SeenToMove x = with("field 3 2; owner o; figure a o 0 0 east 1; looker m 2 1 north; looker n 0 1 north;");
        due("ahead of any", x.blinded(), NONE);
        due("nowhere", x.blind(0, 2, 1, 60), NONE);
        due("ahead of any that was not NONE", x.blinded(), NONE);
        x.blind(0, 1, 0, 1);
        due("n", x.blinded(), 2);
        due("nowhere", x.blind(0, 2, 1, 60), NONE);
        due("no such one", x.blind(1, 1, 0, 1), NONE);
        due("by the latest that was not NONE", x.blinded(), 2);
        field(x, "");
        due("in another field, too", x.blinded(), 2);
    }

    @Says(promise = 26, text = "FITS: how many; NONE: not as told (a cell beyond the rim or with a hedge, too).")
    static void fitsNotAsTold() {
        SeenToMove x = with("field 5 4; hedge 2 2;");
        due("beyond the rim in the east", fits(x, 4, 0, 5, 0), NONE);
        due("beyond the rim in the south", fits(x, 0, 3, 0, 4), NONE);
        due("it begins beyond the rim", fits(x, 5, 0, 4, 0), NONE);
        due("a byte of 255", fits(x, 0, 0, 255, 0), NONE);
        due("a byte of 128", fits(x, 0, 128, 0, 0), NONE);
        due("a hedge behind the first", fits(x, 1, 2, 2, 2), NONE);
        due("a hedge at first", fits(x, 2, 2, 2, 2), NONE);
        due("the eighth beyond the rim", fits(x, 0, 0, 0, 0, 0, 0, 0, 0, 0, 0, 0, 0, 0, 0, 9, 0), NONE);
        due("as told, but none", fits(x, 0, 0, 4, 3), 0);
        due("to the rim", fits(x, 3, 3, 4, 3), 1);
        due("left out as it is too long", fits(x, new int[18]), NONE);
    }

    @Says(promise = 27, text = "The k-th of them (from 0, by their numbers), by the latest fits() above 0; NONE: none such, or ahead of any.")
    static void fitsAtByTheLatestAbove0() {
        SeenToMove x = with("field 9 9;");
        due("ahead of any", x.fitsAt(0), NONE);
        fits(x, 0, 0, 8, 8);
        due("none of 0", x.fitsAt(0), NONE);
        due("by 9 and the last corner's", fits(x, 4, 4, 4, 4, 4, 4, 4, 4, 4, 4, 4, 4, 4, 4, 4, 4), 8);
        int[] numbers = {7, 8, 16, 17, 25, 26, 34, 35};
        for (int k = 0; k < 8; k++) {
            due("fitsAt(" + k + ")", x.fitsAt(k), numbers[k]);
        }
        for (int bad : beside(8)) {
            due("fitsAt(" + bad + ")", x.fitsAt(bad), NONE);
        }
        fits(x, 0, 0, 8, 8);
        due("behind one of 0", x.fitsAt(7), 35);
        fits(x, 9, 9);
        due("behind one not as told", x.fitsAt(7), 35);
        field(x, "field 2 2;");
        due("in another field", x.fitsAt(7), 35);
        fits(x, 0, 0, 1, 0);
        due("by the latest", x.fitsAt(0), 0);
        due("one alone", x.fitsAt(1), NONE);
    }

    @Says(promise = 28, text = "ASK by the latest fits() above 0; NONE ahead of any.")
    static void askByTheLatestAbove0() {
        SeenToMove x = with("field 9 9;");
        due("ahead of any", x.ask(), NONE);
        fits(x, 0, 0, 8, 8);
        due("none of 0", x.ask(), NONE);
        fits(x, 9, 9, 9, 9);
        due("none of one not as told", x.ask(), NONE);
        fits(x, 4, 4, 4, 4, 4, 4, 4, 4, 4, 4, 4, 4, 4, 4, 4, 4);
        due("ask()", x.ask(), 9);
        fits(x, 0, 0, 8, 8);
        due("behind one of 0", x.ask(), 9);
        fits(x, 9, 9, 9, 9);
        due("behind one not as told", x.ask(), 9);
        field(x, "field 2 2; hedge 1 1;");
        due("in another field", x.ask(), 9);
        fits(x, 0, 0, 1, 0);
        due("by the latest", x.ask(), 1);
    }

    @Says(promise = 29, text = "GROWN; NONE: there are no OWNERS.")
    static void grownWithoutOwners() {
        due("without owners", new SeenToMove().grown(), NONE);
        due("with lookers alone", with("looker m 0 0 east;").grown(), NONE);
        due("one without land", with("owner o;").grown(), 0);
    }

    @Says(promise = 30, text = "FARTHEST; NONE: there are no FIGURES.")
    static void farthestWithoutFigures() {
        due("without figures", new SeenToMove().farthest(), NONE);
        due("with an owner and a looker", with("owner o; looker m 0 0 east;").farthest(), NONE);
        due("one that did not go", with("owner o; figure a o 0 0 east 1;").farthest(), 0);
    }

    @Says(promise = 31, text = "MEAN. NoSuchElementException: there are no FIGURES, no such ones.")
    static void meanWithoutFigures() {
        SeenToMove none = with("owner o; looker m 0 0 east;");
        due("mean(0) without figures", orThrows(() -> none.mean(0)), THROWS);
        due("mean(1) without figures", orThrows(() -> none.mean(1)), THROWS);
        SeenToMove x = with(FOUR);
        for (int bad : beside(2)) {
            due("mean(" + bad + ")", orThrows(() -> x.mean(bad)), THROWS);
        }
        due("mean(0)", x.mean(0), 0);
        due("mean(1)", x.mean(1), 1);
    }

    @Says(promise = 32, text = "LINE of a FIGURE: how many bytes; NONE: no such one.")
    static void lineOfNoSuchOne() {
        SeenToMove x = with(FOUR);
        for (int bad : beside(2)) {
            due("line(" + bad + ")", x.line(bad), NONE);
        }
        due("without figures", new SeenToMove().line(0), NONE);
        due("a at 2 0 to east seen", x.line(0), 21);
        due("b at 2 2 to south", x.line(1), 17);
        due("the longest", with("field 9 9; owner o; figure abcdefg o 8 8 south 1; looker m 8 0 south;").line(0), 28);
    }

    @Says(promise = 33, text = "Byte i of the latest LINE; NONE: none such.")
    static void byteAtOfNoneSuch() {
        SeenToMove x = with(FOUR);
        due("ahead of any", x.byteAt(0), NONE);
        x.line(0);
        for (int bad : beside(21)) {
            due("byteAt(" + bad + ")", x.byteAt(bad), NONE);
        }
        due("the first", x.byteAt(0), 'a');
        due("the last", x.byteAt(20), 'n');
        x.line(2);
        due("behind a line of none", x.byteAt(20), 'n');
        x.line(1);
        due("the first of a shorter one", x.byteAt(0), 'b');
        due("the last of a shorter one", x.byteAt(16), 'h');
        due("behind the last of a shorter one", x.byteAt(17), NONE);
        x.hours(9);
        field(x, "");
        due("the latest stays", x.byteAt(16), 'h');
    }

    @Says(promise = 34, text = "n (1 to 60) HOURS DRAWN by a seed: how many went by; NONE: not as told.")
    static void drawnOfOneTo60() {
        SeenToMove x = with(FOUR);
        String before = allThatIsSo(x);
        for (int bad : new int[] {MIN, -1, 0, 61, MAX}) {
            due("drawn(" + bad + ", 1)", x.drawn(bad, 1), NONE);
        }
        due("what is so", allThatIsSo(x), before);
        due("drawn(1, 0)", x.drawn(1, 0), 1);
        due("drawn(60, MAX)", x.drawn(60, MAX), 60);
        due("now(0)", x.now(0), 61);
        SeenToMove late = withHour(FOUR, 1000);
        due("none is left", late.drawn(1, 1), 0);
        due("not as told, though none is left", late.drawn(61, 1), NONE);
        SeenToMove last = withHour(FOUR, 999);
        due("one is left", last.drawn(2, 1), 1);
    }

    @Says(promise = 35, text = "Of n (1 to 30) seeds x, x and 1, .. by how many a FIGURE went a cell on at least once within 20 HOURS DRAWN from now on; NONE: no such ones.")
    static void oddsOfOneTo30Within20Hours() {
        SeenToMove x = with(FOUR);
        for (int bad : beside(2)) {
            due("odds(" + bad + ", 1, 1)", x.odds(bad, 1, 1), NONE);
        }
        for (int bad : new int[] {MIN, -1, 0, 31, MAX}) {
            due("odds(0, " + bad + ", 1)", x.odds(0, bad, 1), NONE);
        }
        // Turned thrice: by 5 it goes in hour 20, by 7, turned twice, in hour 21.
        SeenToMove y = with("field 3 3; owner o; hedge 0 0; hedge 1 1; figure a o 0 1 west 5; figure b o 2 0 north 7;");
        due("in the 20th hour, 1 seed", y.odds(0, 1, 1), 1);
        due("in the 20th hour, 30 seeds", y.odds(0, 30, 1), 30);
        due("in the 21st hour", y.odds(1, 30, 1), 0);
        y.hours(1);
        due("in the 20th hour from now on", y.odds(1, 30, 1), 30);
        due("all stays", y.now(0) + y.now(4), 1);
        // Gone in hour 9, turned in 18 and 27, gone back in 36.
        SeenToMove z = with("field 2 2; owner o; hedge 0 1; hedge 1 1; figure a o 0 0 east 9;");
        z.hours(15);
        due("what it went till now does not count", z.odds(0, 30, 1), 0);
        due("gone till now", z.figure(0, 5), 1);
        z.hours(1);
        due("in the 20th hour from now on", z.odds(0, 30, 1), 30);
    }

    @Says(promise = 35, text = "Of n (1 to 30) seeds x, x and 1, ..")
    static void oddsOfSeedsThatWrap() {
        SeenToMove x = with("field 3 3; owner o; figure a o 1 1 east 9; figure b o 0 0 east 9; looker m 2 1 west; looker n 1 2 north; looker p 0 2 north; looker q 2 2 north;");
        boolean differs = false;
        for (int first : new int[] {MAX - 2, -3, 40}) {
            for (int f = 0; f < 2; f++) {
                int many = 0;
                for (int i = 0; i < 6; i++) {
                    x.drawn(20, first + i);
                    many += x.figure(f, 5) > 0 ? 1 : 0;
                    x.undo();
                }
                due("odds(" + f + ", 6, " + first + ")", x.odds(f, 6, first), many);
                differs |= many > 0 && many < 6;
            }
        }
        due("by some of the seeds alone", differs, true);
    }

    @Says(promise = 36, text = "NONE: none; -2 less the place of a FAULT; -1000: another lives (the tape stays).")
    static void bookOfAnotherLives() {
        SeenToMove x = with(FOUR);
        String before = allThatIsSo(x);
        for (int lives : new int[] {MIN, -1, 2, MAX}) {
            feed(x, "m shuts;");
            due("book(" + lives + ")", x.book(lives), -1000);
            due("the tape stays", x.count(5), 8);
            due("told(0), ahead of any", x.told(0), NONE);
        }
        due("what is so", allThatIsSo(x), before);
        due("a fault at 0", book(x, ";", 1), -2);
        due("a fault at 9", book(x, "m shuts; q", 1), -11);
        due("a book with a fault is not lived", allThatIsSo(x), before);
        due("none is wrong", book(x, "m shuts;", 1), NONE);
        due("an empty book", book(x, "", 1), NONE);
        due("it is lived", x.looker(0, 3), 1);
    }

    @Says(promise = 36, text = "it is judged, all staying as it is (lives 0), or lived as far as it is not WRONG (1): the LINE that is WRONG (from 0)")
    static void bookJudgedOrLived() {
        String text = "hour 2; m shuts; m turns south; m shuts; n turns east; hour 60;";
        SeenToMove x = with(FOUR);
        String before = allThatIsSo(x);
        due("judged: wrong in line 3", book(x, text, 0), 3);
        due("what is so", allThatIsSo(x), before);
        due("nothing to undo", x.undo(), NONE);
        due("wrong in line 0", book(x, "m opens; m shuts;", 1), 0);
        due("what is so", allThatIsSo(x), before);
        due("nothing to undo", x.undo(), NONE);
        due("lived: wrong in line 3", book(x, text, 1), 3);
        SeenToMove y = with(FOUR);
        y.hours(2);
        y.shut(0);
        y.turn(0, 1);
        due("as far as it is not wrong", allThatIsSo(x), allThatIsSo(y));
        due("wrong in the last line", book(y, "hour 1; hour 1; m shuts;", 1), 2);
        due("now(0)", y.now(0), 4);
    }

    @Says(promise = 37, text = "0 why it was WRONG (0: it was not; 1 turning, 11 to 13 walking, 21 shutting, 31 opening, 41, 42 facing; 51: fewer HOURS are left)")
    static void toldWhyItWasWrong() {
        String field = "field 4 4; owner o; figure a o 1 1 east 1; hedge 2 2; looker m 3 1 west; looker n 3 3 east;";
        String[] books = {"", "m turns north;", "m turns west;", "n walks east;", "n walks south;", "n walks north; n walks west;",
            "n walks north; n walks north;", "m shuts; m shuts;", "m opens;", "a faces south;", "a faces east;", "m shuts; a faces east;"};
        int[] due = {0, 0, 1, 11, 11, 12, 13, 21, 31, 41, 41, 42};
        for (int i = 0; i < books.length; i++) {
            SeenToMove x = with(field);
            book(x, books[i], i % 2);
            due("told(0) of '" + books[i] + "'", x.told(0), due[i]);
        }
        SeenToMove late = withHour(field, 960);
        due("as many hours as are left", book(late, "hour 40;", 0), NONE);
        due("told(0)", late.told(0), 0);
        due("told(2)", late.told(2), 1000);
        due("one more", book(late, "hour 41;", 1), 0);
        due("told(0)", late.told(0), 51);
        due("none of them goes by", late.told(2) + late.now(0), 1920);
        due("one more behind all", book(late, "hour 20; hour 20; hour 1;", 1), 2);
        due("told(0)", late.told(0), 51);
        due("the others went by", late.told(2) + late.now(0), 2000);
    }

    @Says(promise = 37, text = "1 how many LINES are ahead of the one that is WRONG (all, if none is)")
    static void toldHowManyLines() {
        SeenToMove x = with(FOUR);
        book(x, "", 0);
        due("none of none", x.told(1), 0);
        book(x, "m opens; m shuts;", 0);
        due("the first is wrong", x.told(1), 0);
        book(x, "m shuts; n shuts; m shuts; m opens;", 0);
        due("the third is wrong", x.told(1), 2);
        book(x, "m shuts; n shuts; m opens;", 0);
        due("none is wrong", x.told(1), 3);
        book(x, "m shuts; hour 5; n shuts;", 0);
        due("the hour then", x.told(2), 5);
        due("cells gone till then, all unseen: a four, b two", x.told(3), 4 + 2);
        book(x, "hour 5;", 0);
        due("a is seen: b alone went", x.told(3), 2);
    }

    @Says(promise = 37, text = "Of the latest book() that had no FAULT (and was not -1000)")
    static void toldOfTheLatestWithoutAFault() {
        SeenToMove x = with(FOUR);
        book(x, "m shuts; hour 3; m shuts;", 0);
        book(x, "m", 0);
        due("behind a fault: told(0)", x.told(0), 21);
        due("behind a fault: told(1)", x.told(1), 2);
        feed(x, "");
        x.book(2);
        due("behind another lives: told(0)", x.told(0), 21);
        due("behind another lives: told(2)", x.told(2), 3);
        x.hours(1);
        field(x, "");
        due("it stays: told(2)", x.told(2), 3);
        book(x, "", 1);
        due("an empty book's: told(0)", x.told(0), 0);
        due("an empty book's: told(1)", x.told(1), 0);
    }

    @Says(promise = 37, text = "3 how often all went a cell on till then. NONE: another what, or ahead of any.")
    static void toldOfAnotherWhat() {
        SeenToMove x = with(FOUR);
        for (int what = 0; what < 4; what++) {
            due("told(" + what + ") ahead of any", x.told(what), NONE);
        }
        book(x, "m", 0);
        due("ahead of any without a fault", x.told(0), NONE);
        x.hours(4);
        book(x, "hour 2;", 0);
        for (int bad : beside(4)) {
            due("told(" + bad + ")", x.told(bad), NONE);
        }
        due("told(3), what went ahead of the book, too", x.told(3), 3);
        due("told(0)", x.told(0), 0);
    }

    @Says(promise = 38, text = "how many ONES (each not, bracket and other one); -1 less the place of a FAULT: it stays.")
    static void sentenceCountsItsOnesOrStays() {
        SeenToMove x = with(FOUR);
        due("one", sentence(x, "of o"), 1);
        due("with nots and brackets", sentence(x, "not (not seen and (stuck or moved)) or gone = 0"), 8);
        due("a fault at 0", sentence(x, "o"), -1);
        due("a fault at the end", sentence(x, "not number = 0 and (seen"), -25);
        due("a fault behind 20", sentence(x, "seen" + " or seen".repeat(20)), -1 - 160);
        due("the sentence stays", x.said(NONE), 2);
        due("said(1)", x.said(1), 1);
        due("a new one", sentence(x, "number=1"), 1);
        due("said(0)", x.said(0), 1);
    }

    @Says(promise = 39, text = "how many (k NONE), or the k-th. NONE: there is no SENTENCE, none such.")
    static void saidOfNoneSuch() {
        SeenToMove x = with(FOUR);
        for (int k : new int[] {NONE, 0, MIN, MAX}) {
            due("without a sentence, said(" + k + ")", x.said(k), NONE);
        }
        sentence(x, "seen and");
        due("a sentence with a fault is none", x.said(NONE), NONE);
        sentence(x, "of o");
        due("said(NONE)", x.said(NONE), 2);
        due("said(0)", x.said(0), 0);
        due("said(1)", x.said(1), 1);
        for (int bad : new int[] {MIN, -2, 2, MAX}) {
            due("said(" + bad + ")", x.said(bad), NONE);
        }
        sentence(x, "number > 1");
        due("of none", x.said(NONE), 0);
        due("said(0) of none", x.said(0), NONE);
        SeenToMove none = new SeenToMove();
        sentence(none, "seen");
        due("without figures", none.said(NONE), 0);
        due("said(0) without figures", none.said(0), NONE);
    }

    @Says(promise = 40, text = "FIELD, all that is so and the SENTENCE are kept in place k (0, 1): true; false: no such one.")
    static void imagesInTwoPlaces() {
        SeenToMove x = with("field 3 3; owner o; figure a o 0 0 east 1; looker m 2 2 west;");
        for (int bad : beside(2)) {
            due("image(" + bad + ")", x.image(bad), false);
        }
        due("restore(0) behind them", x.restore(0), false);
        x.hours(2);
        x.shut(0);
        sentence(x, "moved");
        String first = allThatIsSo(x);
        due("image(0)", x.image(0), true);
        field(x, "field 2 4; hedge 1 1; owner p; owner q; land q 3; figure b q 0 0 south 2;");
        x.hours(1);
        String second = allThatIsSo(x);
        due("image(1)", x.image(1), true);
        field(x, "");
        due("restore(0)", x.restore(0), true);
        due("what was kept there", allThatIsSo(x), first);
        due("restore(1)", x.restore(1), true);
        due("what was kept there", allThatIsSo(x), second);
        due("image(0) once more", x.image(0), true);
        x.hours(1);
        due("restore(0)", x.restore(0), true);
        due("the latest that was kept there", allThatIsSo(x), second);
        due("its first land", x.grown(), 0);
    }

    @Says(promise = 41, text = "(the tape, and what other calls told last, stays; nothing can be undone): true; false: no such one, or nothing is kept there.")
    static void restoreOfNothing() {
        SeenToMove x = with(FOUR);
        x.hours(1);
        String before = allThatIsSo(x);
        for (int bad : new int[] {MIN, -1, 0, 1, 2, MAX}) {
            due("restore(" + bad + ")", x.restore(bad), false);
        }
        due("what is so", allThatIsSo(x), before);
        due("the hour can be undone", x.undo(), 0);
        x.image(1);
        due("nothing in the other place", x.restore(0), false);
        x.turn(1, 1);
        x.cover();
        x.few();
        x.blind(1, 2, 3, 60);
        fits(x, 0, 0, 1, 0);
        x.line(0);
        book(x, "m opens;", 0);
        x.feed(1, 2, 3, 4, 5);
        String told = allToldLast(x);
        due("restore(1)", x.restore(1), true);
        due("looker(1, 2)", x.looker(1, 2), 2);
        due("the tape stays", x.count(5), 20);
        due("what other calls told last", allToldLast(x), told);
        due("nothing can be undone", x.undo(), NONE);
    }

    @Says(promise = 42, text = "5 bytes of the tape. NONE for another what.")
    static void countOfAnotherWhat() {
        SeenToMove x = with(FOUR);
        for (int bad : beside(6)) {
            due("count(" + bad + ")", x.count(bad), NONE);
        }
        x.feed(0, 0, 0, 0, 0);
        due("count(5)", x.count(5), 20);
        x.end(7);
        due("count(5)", x.count(5), 7);
    }
}
