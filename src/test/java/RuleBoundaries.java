/** The boundary cases of what is so, what can be done, and what would be: the paragraphs ==== 2. and ==== 3. */
final class RuleBoundaries extends Boundary {
    /** Alone it goes round in 8 hours: 1 0 behind 1, 1 1 behind 3, 0 1 behind 5, 0 0 behind 7. */
    private static final String ROUND = "field 2 2; owner o; figure a o 0 0 east 1;";

    // ---- ==== 2.

    @Says(promise = {7, 9, 16}, under = RULES, text = "The DAY has 24 HOURS.")
    static void dayOf24Hours() {
        SeenToMove x = with("looker m 0 0 east 0 1; looker n 0 1 east 23 1;");
        for (int hour = 0; hour <= 72; hour++) {
            due("looker(0, 4) in hour " + hour, x.looker(0, 4), hour % 24 == 0 ? 1 : 0);
            due("looker(1, 4) in hour " + hour, x.looker(1, 4), hour % 24 == 23 ? 1 : 0);
            x.hours(1);
        }
    }

    @Says(promise = {6, 7, 9}, under = RULES, text = "A LOOKER looks, if his eyes are not SHUT and the HOUR of the DAY is one of his.")
    static void looksInHisHoursWithOpenEyes() {
        SeenToMove x = with("owner o; figure a o 3 0 east 9; looker m 0 0 east 23 2;");
        int[] hours = {0, 1, 22, 23, 24, 25};
        int[] due = {1, 0, 0, 1, 1, 0};
        for (int i = 0; i < hours.length; i++) {
            for (int hour = i == 0 ? 0 : hours[i - 1]; hour < hours[i]; hour++) {
                x.hours(1);
            }
            due("looker(0, 4) in hour " + hours[i], x.looker(0, 4), due[i]);
            due("looker(0, 5) in hour " + hours[i], x.looker(0, 5), due[i]);
            due("figure(0, 6) in hour " + hours[i], x.figure(0, 6), due[i]);
            due("now(1) in hour " + hours[i], x.now(1), due[i]);
            due("now(3) in hour " + hours[i], x.now(3), due[i]);
        }
        x.undo();
        x.shut(0);
        due("shut in hour 24: looker(0, 4)", x.looker(0, 4), 0);
        due("shut in hour 24: looker(0, 5)", x.looker(0, 5), 0);
        due("shut in hour 24: figure(0, 6)", x.figure(0, 6), 0);
        due("shut in hour 24: now(3)", x.now(3), 0);
    }

    @Says(promise = {6, 7, 9}, under = RULES, text = "from his on to the SIDE where he looks, as far as there is no hedge")
    static void seesFromHisCellToTheRimOrAHedge() {
        SeenToMove x = with("field 9 9; owner o; figure a o 8 0 east 9; figure b o 0 8 east 9; figure c o 0 1 east 9; "
            + "looker m 0 0 east; looker n 8 8 east;");
        int[] ofM = {1, 6, 0, 0};
        int[] ofN = {0, 0, 2, 1};
        for (int side = 0; side < 4; side++) {
            x.turn(0, side);
            x.turn(1, side);
            due("m to " + side, x.looker(0, 5), ofM[side]);
            due("n to " + side, x.looker(1, 5), ofN[side]);
        }
        SeenToMove y = with("field 9 2; owner o; figure a o 3 0 east 9; figure b o 5 0 east 9; hedge 4 0; looker m 0 0 east; looker n 8 0 west;");
        due("m as far as the hedge", y.looker(0, 5), 1);
        due("n as far as the hedge", y.looker(1, 5), 2);
        due("seen by m alone", y.figure(0, 6), 1);
        due("seen by n alone", y.figure(1, 6), 2);
    }

    @Says(promise = {6, 7}, under = RULES, text = "(FIGURES and LOOKERS hide nothing)")
    static void nobodyHidesAnything() {
        SeenToMove x = with("field 9 2; owner o; figure a o 1 0 east 9; looker n 2 0 south; figure b o 3 0 east 9; figure c o 8 0 east 9; "
            + "looker m 0 0 east;");
        due("m sees all in his line", x.looker(1, 5), 7);
        due("n, who looks along another one, none", x.looker(0, 5), 0);
        due("who sees c", x.figure(2, 6), 2);
    }

    @Says(promise = {6, 7}, under = RULES, text = "if he does not look, none.")
    static void seesNoneIfHeDoesNotLook() {
        SeenToMove x = with("owner o; figure a o 3 0 east 9; looker m 0 0 east; looker n 5 0 west 1 23;");
        due("n in hour 0", x.looker(1, 5), 0);
        x.shut(0);
        due("m with his eyes shut", x.looker(0, 5), 0);
        due("nobody sees it", x.figure(0, 6) + x.now(1), 0);
    }

    @Says(promise = {6, 9}, under = RULES, text = "A FIGURE can go on, if the next cell where it FACES is one of the FIELD without a hedge, FIGURE, LOOKER.")
    static void canGoOnWithinTheFreeCells() {
        SeenToMove rim = with("field 9 8; owner o; figure a o 8 4 east 9; figure b o 4 7 south 9; figure c o 0 4 west 9; figure d o 4 0 north 9;");
        due("none beyond the rim", rim.now(2), 0);
        due("a beyond the rim", rim.figure(0, 7), 0);
        SeenToMove near = with("field 9 8; owner o; figure a o 7 4 east 9; figure b o 4 6 south 9; figure c o 1 4 west 9; figure d o 4 1 north 9;");
        due("all to the rim", near.now(2), 15);
        due("a to the rim", near.figure(0, 7), 1);
        SeenToMove x = with("field 5 5; owner o; figure a o 0 0 east 9; hedge 1 0; figure b o 0 1 east 9; figure c o 1 1 south 9; "
            + "figure d o 0 3 east 9; looker m 1 3 south;");
        due("not into a hedge", x.figure(0, 7), 0);
        due("not to a figure", x.figure(1, 7), 0);
        due("to a free cell", x.figure(2, 7), 1);
        due("not to a looker", x.figure(3, 7), 0);
        due("c alone", x.now(2), 4);
        SeenToMove corners = with("field 9 9; owner o; hedge 0 0; hedge 8 8; figure a o 1 0 west 9; figure b o 0 1 north 9; figure c o 7 8 east 9;");
        due("not into hedges in the first and the last cell", corners.now(2), 0);
    }

    @Says(promise = 11, under = RULES, text = "To TURN to a SIDE: 1 he looks that way (SHUT or not): he does.")
    static void turnsUnlessHeLooksThatWay() {
        SeenToMove x = with("looker m 0 0 north 1 1;");
        due("he looks that way", x.turn(0, 3), 1);
        due("turn(0, 0)", x.turn(0, 0), 0);
        due("looker(0, 2)", x.looker(0, 2), 0);
        x.shut(0);
        due("shut, he looks that way", x.turn(0, 0), 1);
        due("shut, he turns", x.turn(0, 3), 0);
        due("looker(0, 2)", x.looker(0, 2), 3);
        due("still shut", x.looker(0, 3), 1);
    }

    @Says(promise = 12, under = RULES, text = "1 the rim; 2 a hedge; 3 a FIGURE or a LOOKER is there: he is there (he looks the same way).")
    static void walksUnlessRimHedgeOrSomebody() {
        SeenToMove x = with("field 9 9; looker a 0 0 south; looker b 8 8 south;");
        due("the rim in the west", x.walk(0, 2), 1);
        due("the rim in the north", x.walk(0, 3), 1);
        due("the rim in the east", x.walk(1, 0), 1);
        due("the rim in the south", x.walk(1, 1), 1);
        SeenToMove y = with("field 3 3; owner o; looker m 1 1 south; hedge 1 0; figure a o 2 1 east 9; looker n 1 2 east;");
        due("a hedge", y.walk(0, 3), 2);
        due("a figure", y.walk(0, 0), 3);
        due("a looker", y.walk(0, 1), 3);
        due("a hedge in the first cell", with("hedge 0 0; looker m 1 0 east;").walk(0, 2), 2);
        due("he is where he was", y.looker(0, 0) * 10 + y.looker(0, 1), 11);
        y.shut(0);
        due("shut, too", y.walk(0, 2), 0);
        due("he is there", y.looker(0, 0) * 10 + y.looker(0, 1), 1);
        due("he looks the same way", y.looker(0, 2), 1);
        due("cell(0, 1, 2)", y.cell(0, 1, 2), 0);
        due("cell(1, 1, 2)", y.cell(1, 1, 2), NONE);
    }

    @Says(promise = 13, under = RULES, text = "To SHUT his eyes: 1 they are: they are.")
    static void shutsUnlessTheyAre() {
        SeenToMove x = with("looker m 0 0 east 1 1;");
        due("shut(0)", x.shut(0), 0);
        due("looker(0, 3)", x.looker(0, 3), 1);
        due("they are", x.shut(0), 1);
        due("looker(0, 3)", x.looker(0, 3), 1);
    }

    @Says(promise = 14, under = RULES, text = "To OPEN them: 1 they are not SHUT: they are open.")
    static void opensIfTheyAreShut() {
        SeenToMove x = with("looker m 0 0 east 1 1;");
        due("they are not shut, but it is not his hour", x.open(0), 1);
        x.shut(0);
        due("open(0)", x.open(0), 0);
        due("looker(0, 3)", x.looker(0, 3), 0);
        due("they are not shut", x.open(0), 1);
    }

    @Says(promise = 15, under = RULES, text = "To FACE a FIGURE to a SIDE: why not, the least: 1 somebody SEES it; 2 it FACES that way: it does.")
    static void facesUnlessSeenOrItDoes() {
        SeenToMove x = with("owner o; figure a o 2 0 south 1; looker m 0 0 east;");
        due("both: the least", x.face(0, 1), 1);
        due("seen", x.face(0, 2), 1);
        due("figure(0, 2)", x.figure(0, 2), 1);
        x.turn(0, 1);
        due("it faces that way", x.face(0, 1), 2);
        due("face(0, 3)", x.face(0, 3), 0);
        due("figure(0, 2)", x.figure(0, 2), 3);
        due("it went nowhere", x.figure(0, 0) + x.figure(0, 1) + x.figure(0, 5), 2);
    }

    @Says(promise = 16, under = RULES, text = "An HOUR (0 to 999; 1000: all are over)")
    static void hoursAreOverAt1000() {
        SeenToMove x = withHour(ROUND, 999);
        due("now(0)", x.now(0), 999);
        int gone = x.now(4);
        due("the last hour", x.hours(60), 1);
        due("now(0)", x.now(0), 1000);
        due("hour 1000 turns it: cells gone", x.now(4), gone);
        String before = allThatIsSo(x);
        due("all are over", x.hours(1), 0);
        due("all are over", x.hours(60), 0);
        due("what is so", allThatIsSo(x), before);
    }

    @Says(promise = {16, 18}, under = RULES, text = "if the number of the next HOUR is divided by its EVERY")
    static void goesIfTheNextHourIsDivided() {
        for (int every = 1; every <= 9; every++) {
            SeenToMove x = with("field 9 2; owner o; figure a o 0 0 east " + every + ";");
            due("every " + every + ": in " + (every - 1), x.where(0, every - 1), 0);
            due("every " + every + ": in " + every, x.where(0, every), 1);
            due("every " + every + ": in " + (2 * every - 1), x.where(0, 2 * every - 1), 1);
            due("every " + every + ": in " + 2 * every, x.where(0, 2 * every), 2);
            x.hours(every);
            due("every " + every + ": gone", x.figure(0, 5), 1);
        }
    }

    @Says(promise = 16, under = RULES, text = "nobody SEES it now (as those ahead have gone)")
    static void goesIfNobodySeesItNow() {
        SeenToMove x = with("owner o; figure a o 1 0 east 1; looker m 0 0 east 0 1;");
        x.hours(1);
        due("seen in hour 0", x.figure(0, 0), 1);
        x.hours(1);
        due("not seen in hour 1", x.figure(0, 0), 2);
        SeenToMove y = with("owner o; figure a o 1 0 east 1; looker m 0 0 east 1 1;");
        y.hours(1);
        due("not seen in hour 0, but in hour 1", y.figure(0, 0), 2);
        y.hours(1);
        due("seen in hour 1", y.figure(0, 0), 2);
        SeenToMove ahead = with("field 9 2; owner o; figure a o 1 0 east 1; figure b o 0 0 east 1;");
        ahead.hours(1);
        due("a has gone, b comes behind it", ahead.figure(0, 0) * 10 + ahead.figure(1, 0), 21);
        SeenToMove behind = with("field 9 2; owner o; figure a o 0 0 east 1; figure b o 1 0 east 1;");
        behind.hours(1);
        due("b has not gone yet: a turns", behind.figure(0, 0) * 10 + behind.figure(0, 2), 1);
        due("b goes", behind.figure(1, 0), 2);
        SeenToMove out = with("field 9 2; owner o; figure a o 1 0 south 1; looker m 0 0 east; figure b o 3 1 north 1;");
        out.hours(1);
        due("a is seen, b comes where it is seen", out.figure(0, 5) * 10 + out.figure(1, 5), 1);
        out.hours(1);
        due("b is seen now", out.figure(1, 5) * 10 + out.figure(1, 2), 13);
    }

    @Says(promise = {8, 10, 16}, under = RULES, text = "if it can go on, it goes there, and that cell is its OWNER's")
    static void cellGoneToIsItsOwners() {
        SeenToMove x = with("field 5 2; owner r; owner b; land r 0; figure a b 0 0 east 1; figure c r 0 1 east 1; hedge 3 0;");
        x.hours(3);
        due("a went two cells and turned", x.figure(0, 5) * 10 + x.figure(0, 2), 21);
        due("cell(2, 0, 3)", x.cell(2, 0, 3), 1);
        due("the hedge's cell stays r's", x.cell(3, 0, 3), 0);
        due("nobody's cell is r's", x.cell(3, 1, 3), 0);
        due("the rest stays nobody's", x.cell(4, 1, 3), NONE);
        due("land(0)", x.land(0), 2 + 4);
        due("land(1)", x.land(1), 3);
        SeenToMove back = with("field 2 2; owner r; owner b; figure a r 0 0 east 1; hedge 1 1; figure c b 0 1 north 9;");
        back.hours(6);
        due("a came back to its own cell", back.figure(0, 0) * 10 + back.figure(0, 5), 2);
        due("twice gone, one cell more", back.land(0), 2);
    }

    @Says(promise = {6, 16}, under = RULES, text = "else it FACES the next SIDE (behind 3 comes 0)")
    static void facesTheNextSideRoundTo0() {
        SeenToMove x = with("field 2 2; hedge 1 0; hedge 0 1; owner o; figure a o 0 0 west 1;");
        int[] due = {2, 3, 0, 1, 2, 3, 0};
        for (int hour = 0; hour < due.length; hour++) {
            due("figure(0, 2) in hour " + hour, x.figure(0, 2), due[hour]);
            x.hours(1);
        }
        due("it went nowhere", x.figure(0, 5), 0);
    }

    @Says(promise = {8, 10}, under = RULES, text = "At first, too, its cell is its OWNER's; other cells, those with a hedge, too, are of whom the row is, or nobody's.")
    static void landAtFirst() {
        SeenToMove x = with("field 4 3; owner r; owner b; land r 0; hedge 3 0; hedge 3 1; figure a b 0 0 east 1; figure c r 2 2 east 9;");
        due("the figure's cell", x.cell(0, 0, 3), 1);
        due("the row's", x.cell(1, 0, 3), 0);
        due("the row's, with a hedge", x.cell(3, 0, 3), 0);
        due("nobody's, with a hedge", x.cell(3, 1, 3), NONE);
        due("nobody's", x.cell(0, 1, 3), NONE);
        due("a figure's in a row that is nobody's", x.cell(2, 2, 3), 0);
        due("land(0)", x.land(0), 4);
        due("land(1)", x.land(1), 1);
        x.hours(1);
        due("land(0) behind an hour", x.land(0), 3);
        due("land(1) behind an hour", x.land(1), 2);
        due("the cell that it left", x.cell(0, 0, 3), 1);
    }

    // ---- ==== 3.

    @Says(promise = {18, 19, 20, 22, 24, 26, 35, 36}, under = WHAT_WOULD_BE, text = "All by what would go on, if nothing else is done")
    static void askingChangesNothing() {
        SeenToMove x = with("field 4 4; owner o; figure a o 0 0 east 1; figure b o 2 2 east 2; looker m 3 3 west; looker n 0 3 north;");
        x.hours(3);
        x.shut(1);
        String before = allThatIsSo(x);
        x.where(0, 200);
        x.comes(0, 3, 3);
        x.cover();
        x.few();
        x.blind(0, 3, 3, 60);
        x.blind(1, 3, 2, 60);
        fits(x, 0, 0, 1, 0);
        x.ask();
        x.grown();
        x.farthest();
        x.mean(0);
        x.line(0);
        x.odds(0, 30, 7);
        book(x, "hour 5; m shuts; n opens;", 0);
        due("what is so", allThatIsSo(x), before);
        due("the acts that can be undone", x.undo(), 1);
    }

    @Says(promise = {18, 19, 24}, under = WHAT_WOULD_BE, text = "HOUR 1000 no matter.")
    static void goesOnBeyondHour1000() {
        for (int hour : new int[] {1000, 992}) {
            SeenToMove x = withHour(ROUND, hour);
            int[] cells = {0, 1, 1, 10, 10, 9, 9, 0, 0, 1};
            for (int k = 0; k < cells.length; k++) {
                due("where(0, " + k + ") in hour " + hour, x.where(0, k), cells[k]);
            }
            due("where(0, 197) in hour " + hour, x.where(0, 197), 9);
            due("comes(0, 1, 0) in hour " + hour, x.comes(0, 1, 0), 1);
            due("comes(0, 0, 1) in hour " + hour, x.comes(0, 0, 1), 5);
            due("blind(0, 1, 1, 2) in hour " + hour, x.blind(0, 1, 1, 2), NONE);
            due("blind(0, 1, 1, 3) in hour " + hour, x.blind(0, 1, 1, 3), 0);
            due("now(0)", x.now(0), hour);
        }
        SeenToMove late = withHour(ROUND, 997);
        due("997 and 200", late.where(0, 200), late.where(0, 0));
        due("comes across hour 1000", late.comes(0, 0, 0), 2);
    }

    @Says(promise = {20, 21}, under = WHAT_WOULD_BE, text = "(and looks, if it is his HOUR and his eyes are not SHUT); of like ones the first: LOOKER by LOOKER the least SIDE")
    static void coverOfThoseWhoLookWithTheLeastSides() {
        String field = "field 3 3; owner o; figure a o 0 2 east 9; looker n 0 0 north; looker m 2 2 north;";
        SeenToMove x = with(field);
        dueCover(x, "both", 1, 0, 2);
        x.shut(1);
        dueCover(x, "m shut", 1, 1, 0);
        x.shut(0);
        dueCover(x, "both shut", 0, 0, 0);
        x.open(1);
        dueCover(x, "n shut", 1, 0, 2);
        SeenToMove hours = with(field.replace("m 2 2 north", "m 2 2 north 1 23"));
        dueCover(hours, "not m's hour", 1, 1, 0);
        hours.hours(1);
        dueCover(hours, "m's hour", 1, 0, 2);
        for (int side = 0; side < 4; side++) {
            String[] cells = {"2 1", "1 2", "0 1", "1 0"};
            SeenToMove one = with("field 3 3; owner o; figure a o " + cells[side] + " east 9; looker m 1 1 east; looker n 2 2 east 1 1;");
            dueCover(one, "to side " + side + " alone", 1, side, 0);
        }
    }

    private static void dueCover(SeenToMove x, String when, int many, int first, int second) {
        due("cover(), " + when, x.cover(), many);
        due("coverBy(0), " + when, x.coverBy(0), first);
        due("coverBy(1), " + when, x.coverBy(1), second);
    }

    @Says(promise = {22, 23}, under = WHAT_WOULD_BE, text = "the fewest LOOKERS who should look now, whatever the HOUR and their eyes")
    static void fewWhateverTheHourAndTheirEyes() {
        SeenToMove x = with("field 5 5; owner o; figure a o 0 0 east 9; figure b o 4 4 east 9; looker m 0 2 east 5 1; looker n 4 2 east;");
        due("not his hour", x.few(), 2);
        due("fewest()", x.fewest(), 3);
        x.shut(0);
        x.shut(1);
        due("shut, too", x.few(), 2);
        due("fewest()", x.fewest(), 3);
    }

    @Says(promise = {22, 23}, under = WHAT_WOULD_BE, text = "so that all FIGURES are SEEN; of like ones the least as bits.")
    static void fewestAndThenLeastAsBits() {
        SeenToMove few = with("field 5 5; owner o; figure a o 0 0 east 9; figure b o 2 0 east 9; looker m 0 4 east; looker n 2 4 east; looker p 4 0 south;");
        due("one who sees both", few.few(), 1);
        due("fewest(), though 3 is less", few.fewest(), 4);
        SeenToMove like = with("field 5 5; owner o; figure a o 0 0 east 9; figure b o 4 4 east 9; looker m 2 0 south; looker n 0 2 south; looker p 4 2 east;");
        due("n or m, and p", like.few(), 2);
        due("fewest() of 5 and 6", like.fewest(), 5);
        String[] cells = {"2 1", "1 2", "0 1", "1 0"};
        for (int i = 0; i < 16; i++) {
            String second = (char) (cells[i / 4].charAt(0) + 3) + " " + (char) (cells[i / 4].charAt(2) + 3);
            SeenToMove two = with("owner o; figure a o " + cells[i % 4] + " east 9; figure b o " + second + " east 9; looker m 1 1 east; looker n 4 4 east;");
            due("two who look to sides " + i % 4 + " and " + i / 4, two.few(), 2);
            due("fewest()", two.fewest(), 3);
        }
        SeenToMove none = with("owner o; figure a o 0 0 east 9; figure b o 5 5 east 9; looker m 0 3 east; looker n 1 1 east;");
        due("b is seen by none", none.few(), NONE);
        SeenToMove hidden = with("owner o; figure a o 0 0 east 9; hedge 1 0; looker m 2 0 west;");
        due("behind a hedge", hidden.few(), NONE);
    }

    @Says(promise = {24, 25}, under = WHAT_WOULD_BE, text = "(besides those that are)")
    static void blindBesidesThoseThatAre() {
        SeenToMove x = with("field 3 2; owner o; figure a o 0 0 east 1; looker m 2 0 west; looker n 0 1 north;");
        due("both look", x.blind(0, 1, 0, 1), 2);
        due("blinded()", x.blinded(), 3);
        x.shut(0);
        due("m is shut", x.blind(0, 1, 0, 1), 1);
        due("blinded()", x.blinded(), 2);
        x.shut(1);
        due("both are shut", x.blind(0, 1, 0, 1), 0);
        due("blinded()", x.blinded(), 0);
        due("all stays", x.looker(0, 3) + x.looker(1, 3) + x.now(0), 2);
    }

    @Says(promise = 24, under = WHAT_WOULD_BE, text = "so that it is there behind 1, 2, .. or n HOURS (that it is there now is not enough)")
    static void blindNeedsAnHourAtLeast() {
        SeenToMove x = with(ROUND);
        due("there now, and not in 6", x.blind(0, 0, 0, 6), NONE);
        due("there behind 7", x.blind(0, 0, 0, 7), 0);
        due("there behind 1 of 5, away then", x.blind(0, 1, 0, 5), 0);
        due("behind 5 of 5", x.blind(0, 0, 1, 5), 0);
        due("behind 5, not 4", x.blind(0, 0, 1, 4), NONE);
        due("it stays there, turned", with("field 2 2; owner o; figure a o 0 0 west 1;").blind(0, 0, 0, 1), 0);
        due("it stays there, seen", with("field 2 2; owner o; figure a o 0 0 east 1; looker m 0 1 north;").blind(0, 0, 0, 1), 0);
    }

    @Says(promise = {24, 25}, under = WHAT_WOULD_BE, text = "or n HOURS (that it is there now is not enough); of like ones the least as bits.")
    static void blindFewestAndThenLeastAsBits() {
        // m sees it in hour 0 alone, n in hour 1 alone: one of them is enough for 2 hours.
        SeenToMove x = with("field 3 2; owner o; figure a o 0 0 east 1; looker m 2 0 west 0 1; looker n 0 1 north 1 1;");
        due("m or n", x.blind(0, 1, 0, 2), 1);
        due("m", x.blinded(), 1);
        SeenToMove y = with("field 3 2; owner o; figure a o 0 0 east 1; looker n 0 1 north 1 1; looker m 2 0 west 0 1;");
        due("n or m", y.blind(0, 1, 0, 2), 1);
        due("n", y.blinded(), 1);
        due("m alone in 1", y.blind(0, 1, 0, 1), 1);
        due("m", y.blinded(), 2);
        // p sees it in both: 3 is not enough, 5 and 6 are.
        SeenToMove z = with("field 3 3; owner o; figure a o 0 0 east 1; looker n 0 1 north 1 1; looker m 2 0 west 0 1; looker p 0 2 north 0 2;");
        due("p and n or m", z.blind(0, 1, 0, 2), 2);
        due("p and n", z.blinded(), 5);
    }

    @Says(promise = 26, under = WHAT_WOULD_BE, text = "(pairs of bytes X, Y: 2 to 8 cells, one for each HOUR behind the other; the first is where it begins, in HOUR 0)")
    static void fitsOfTwoToEightCells() {
        SeenToMove x = with("field 9 2;");
        due("no byte", fits(x), NONE);
        due("1 cell", fits(x, 0, 0), NONE);
        due("a byte more than 1 cell", fits(x, 0, 0, 1), NONE);
        due("2 cells", fits(x, 0, 0, 1, 0), 1);
        due("a byte more than 2 cells", fits(x, 0, 0, 1, 0, 2), NONE);
        due("8 cells", fits(x, 0, 0, 1, 0, 2, 0, 3, 0, 4, 0, 5, 0, 6, 0, 7, 0), 1);
        due("9 cells", fits(x, 0, 0, 1, 0, 2, 0, 3, 0, 4, 0, 5, 0, 6, 0, 7, 0, 8, 0), NONE);
        due("the eighth counts", fits(x, 0, 0, 1, 0, 2, 0, 3, 0, 4, 0, 5, 0, 6, 0, 6, 0), 0);
        x.hours(7);
        due("from hour 0 on, whatever the hour is", fits(x, 0, 1, 0, 1, 1, 1), 1);
        due("fitsAt(0)", x.fitsAt(0), 1);
    }

    @Says(promise = {26, 27}, under = WHAT_WOULD_BE, text = "SIDES and EVERYS (9 by SIDE, and EVERY less 1)")
    static void fitsFromNoughtTo35() {
        SeenToMove x = with("field 9 9;");
        due("to each side by each every", fits(x, 4, 4, 4, 4), 32);
        int k = 0;
        for (int number = 0; number < 36; number++) {
            if (number % 9 != 0) {
                due("fitsAt(" + k + ")", x.fitsAt(k), number);
                k++;
            }
        }
        due("north, each hour", fits(x, 4, 4, 4, 3), 1);
        due("fitsAt(0)", x.fitsAt(0), 27);
        int[] eightHours = new int[16];
        due("8 cells alike, two rims turning it", fits(x, eightHours), 2 + 2 + 7 + 6);
        due("the greatest number", x.fitsAt(16), 35);
    }

    @Says(promise = 26, under = WHAT_WOULD_BE, text = "by which a FIGURE alone (no others, no LOOKERS in its way), SEEN by nobody, hedges staying, would be just so")
    static void fitsAloneAndSeenByNobody() {
        SeenToMove x = with("field 6 5; owner o; hedge 3 0; figure a o 1 2 east 1; looker m 2 2 west;");
        due("through a figure and a looker who looks", fits(x, 0, 2, 1, 2, 2, 2), 1);
        due("fitsAt(0)", x.fitsAt(0), 0);
        due("all cells but one that has a hedge", fits(with("hedge 0 0;"), 1, 0, 2, 0), 1);
        due("turned by a hedge", fits(x, 2, 0, 2, 0, 2, 1), 2);
        due("fitsAt(0)", x.fitsAt(0), 0);
        due("fitsAt(1)", x.fitsAt(1), 10);
    }

    @Says(promise = 28, under = WHAT_WOULD_BE, text = "ASK: the HOUR (1 to 12)")
    static void askFrom1To12() {
        // One way out, north: of 23 that stay for 8 hours, 14 are still there behind 12, 17 behind 8 to 11.
        SeenToMove x = with("field 9 9; hedge 3 8; hedge 5 8;");
        int[] stays = {4, 8, 4, 8, 4, 8, 4, 8, 4, 8, 4, 8, 4, 8, 4, 8};
        due("fits()", fits(x, stays), 23);
        due("the last hour", x.ask(), 12);
        SeenToMove shutIn = with("field 2 2; hedge 1 0; hedge 0 1;");
        due("fits()", fits(shutIn, 0, 0, 0, 0), 36);
        due("no hour tells more than another", shutIn.ask(), 1);
        // Of 34 the most in one cell behind 9 to 13 hours: 14, 12, 12, 12, 11.
        SeenToMove later = with("field 2 2;");
        due("fits()", fits(later, 1, 1, 1, 1), 34);
        due("no hour behind 12", later.ask(), 10);
    }

    @Says(promise = 28, under = WHAT_WOULD_BE, text = "the greatest number of these that may still be left is the least (of like ones the first)")
    static void askTheFirstOfLikeOnes() {
        SeenToMove x = with("field 9 9;");
        due("one alone", fits(x, 0, 0, 1, 0), 1);
        due("is left in any hour", x.ask(), 1);
        // By 7, 8 and 9 to each side: 8 are still there behind 7, 4 behind 8; from 9 on 3 are in each of four cells.
        due("fits()", fits(x, 4, 4, 4, 4, 4, 4, 4, 4, 4, 4, 4, 4, 4, 4), 12);
        due("8 behind 7, 4 behind 8, 3 behind 9, 10, 11, 12", x.ask(), 9);
        SeenToMove two = with("field 2 2;");
        due("east by 2, and by 1 and back at the rim", fits(two, 0, 0, 0, 0, 1, 0), 2);
        due("both are in 1 0 till hour 3", two.ask(), 4);
    }

    @Says(promise = 29, under = WHAT_WOULD_BE, text = "GROWN: the OWNER who has most cells more than at first (it may be less than none; of like ones the first).")
    static void grownMayBeLessThanNone() {
        SeenToMove x = with("field 4 2; owner r; owner b; owner c; land r 0; figure f b 0 1 north 1; figure g c 3 1 north 1;");
        due("none has more", x.grown(), 0);
        x.hours(1);
        due("r has less than at first", x.land(0), 2);
        due("b and c have one more", x.grown(), 1);
        SeenToMove y = with("field 4 3; owner r; owner b; land b 2; land r 0; figure f b 0 1 north 9; figure g r 3 1 south 1;");
        y.hours(3);
        due("two more and two less", y.land(0) * 10 + y.land(1), 73);
        due("r has grown", y.grown(), 0);
        SeenToMove last = with("field 4 2; owner r; owner b; land r 0; land b 1; figure f b 1 1 north 1;");
        last.hours(1);
        due("one less and one more", last.land(0) * 10 + last.land(1), 35);
        due("the last", last.grown(), 1);
    }

    @Says(promise = 30, under = WHAT_WOULD_BE, text = "FARTHEST: the FIGURE that went a cell on most often so far (of like ones the first).")
    static void farthestOfLikeOnesTheFirst() {
        SeenToMove x = with("field 9 9; owner o; figure a o 0 0 east 3; figure b o 0 1 east 2; figure c o 0 2 east 2; figure d o 8 3 east 1;");
        due("none went", x.farthest(), 0);
        x.hours(1);
        due("d turned alone", x.farthest(), 0);
        x.hours(1);
        due("b, c and d went one", x.farthest(), 1);
        x.hours(1);
        due("d went two", x.farthest(), 3);
    }

    @Says(promise = {32, 33}, under = WHAT_WOULD_BE, text = "' seen' behind it, if somebody SEES it.")
    static void lineWithSeenIfSomebodySeesIt() {
        SeenToMove x = with("field 9 9; owner o; figure abcdefg o 8 8 north 1; figure z o 0 0 west 1; looker m 8 0 south; looker n 0 5 north 1 1;");
        due("line(0)", line(x, 0), "abcdefg at 8 8 to north seen");
        due("not n's hour", line(x, 1), "z at 0 0 to west");
        x.shut(0);
        due("nobody sees it", line(x, 0), "abcdefg at 8 8 to north");
        x.face(0, 1);
        due("line(0)", line(x, 0), "abcdefg at 8 8 to south");
        x.face(1, 0);
        due("line(1)", line(x, 1), "z at 0 0 to east");
    }

    @Says(promise = {34, 35}, under = WHAT_WOULD_BE, text = "(an int, wrapping), the draw is (x >>> 8) % n")
    static void drawsWrap() {
        String field = "field 4 4; owner o; figure a o 0 0 east 1; looker m 3 3 east; looker n 1 2 east; hedge 2 2;";
        for (int seed : new int[] {0, 1, -1, MAX, MIN, 77, -123456789}) {
            SeenToMove x = with(field);
            SeenToMove y = with(field);
            due("drawn(20, " + seed + ")", x.drawn(20, seed), 20);
            drawByHand(y, seed, 20);
            due("what is so behind drawn(20, " + seed + ")", allThatIsSo(x), allThatIsSo(y));
        }
    }

    /** The draws told with longs, which do not wrap, and lived by the acts that they stand for. */
    private static void drawByHand(SeenToMove y, int seed, int hours) {
        long x = seed;
        for (int hour = 0; hour < hours; hour++) {
            for (int l = 0; l < y.count(4); l++) {
                x = x * 1103515245L + 12345L & 0xffffffffL;
                int what = (int) (x / 256 % 8);
                if (what < 4) {
                    y.turn(l, what);
                } else if (what == 4 && y.shut(l) != 0) {
                    y.open(l);
                } else if (what == 5) {
                    x = x * 1103515245L + 12345L & 0xffffffffL;
                    y.walk(l, (int) (x / 256 % 4));
                }
            }
            y.hours(1);
        }
    }

    @Says(promise = {34, 35}, under = WHAT_WOULD_BE, text = "each HOUR, up to HOUR 1000 alone (by odds(), too)")
    static void drawsEndAtHour1000() {
        // The one by 5 goes for the 200th time in the last hour, the one by 7 would in hour 1001.
        due("by 5", withHour("field 9 9; owner o; figure c o 0 8 east 5;", 995).odds(0, 30, 1), 30);
        due("by 7", withHour("field 9 9; owner o; figure b o 0 4 east 7;", 995).odds(0, 30, 1), 0);
        due("all hours are over", withHour("field 9 9; owner o; figure a o 0 0 east 1;", 1000).odds(0, 30, 1), 0);
        String field = "field 9 9; looker m 4 4 east;";
        SeenToMove x = withHour(field, 995);
        SeenToMove y = with(field);
        drawByHand(y, 5, 5);
        due("drawn(60, 5)", x.drawn(60, 5), 5);
        due("now(0)", x.now(0), 1000);
        for (int what = 0; what < 4; what++) {
            due("by the draws of 5 hours alone: looker(0, " + what + ")", x.looker(0, what), y.looker(0, what));
        }
        String before = allThatIsSo(x);
        due("drawn(60, 6)", x.drawn(60, 6), 0);
        due("what is so", allThatIsSo(x), before);
    }

    @Says(promise = {34, 35}, under = WHAT_WOULD_BE, text = "he WALKS there (each, if it can be)")
    static void drawsDoWhatCanBe() {
        String field = "field 2 2; owner o; figure a o 1 1 east 1; hedge 1 0; looker m 0 0 east; looker n 0 1 east;";
        for (int seed = 0; seed < 8; seed++) {
            SeenToMove x = with(field);
            SeenToMove y = with(field);
            x.drawn(30, seed);
            drawByHand(y, seed, 30);
            due("nobody can go anywhere: by seed " + seed, allThatIsSo(x), allThatIsSo(y));
            due("m", x.looker(0, 0) + x.looker(0, 1), 0);
        }
    }

    @Says(promise = 31, under = WHAT_WOULD_BE, text = "All fractions are told by two numbers: 0 above, 1 below, in least terms.")
    static void fractionsInLeastTerms() {
        SeenToMove alone = with("owner o; figure a o 0 0 east 1;");
        due("0 by 1", alone.mean(0) * 10 + alone.mean(1), 1);
        alone.hours(3);
        due("3 by 1", alone.mean(0) * 10 + alone.mean(1), 31);
        SeenToMove x = with("field 9 9; owner o; figure a o 0 0 east 1; figure b o 0 1 east 1; figure c o 0 2 east 3; figure d o 0 3 east 9;");
        int[] above = {0, 1, 1, 7, 9, 11, 7};
        int[] below = {1, 2, 1, 4, 4, 4, 2};
        for (int hour = 0; hour < above.length; hour++) {
            due("mean(0) in hour " + hour, x.mean(0), above[hour]);
            due("mean(1) in hour " + hour, x.mean(1), below[hour]);
            x.hours(1);
        }
    }

    @Says(promise = {4, 17, 39}, under = WHAT_WOULD_BE, text = "A new FIELD: HOUR 0, no eyes SHUT, no SENTENCE; nothing can be undone (what other calls told last stays).")
    static void newFieldBeginsAnew() {
        String text = "field 4 4; owner o; figure a o 0 0 east 1; looker m 3 3 west;";
        SeenToMove x = with("field 9 9; hedge 2 2; hedge 8 8; owner p; land p 7; land p 3; looker n 1 1 south; looker k 2 1 east; looker j 0 3 north; "
            + "figure d p 3 2 west 1; figure e p 2 0 east 1; figure f p 5 5 north 1;");
        x.cover();
        x.hours(3);
        field(x, text);
        SeenToMove y = with(text);
        due("none of another field's hedges, land, hours", allThatIsSo(x), allThatIsSo(y));
        due("nor of its lookers", x.cover(), y.cover());
        x.hours(5);
        y.hours(5);
        due("nor of its figures", allThatIsSo(x), allThatIsSo(y));
        x.shut(0);
        sentence(x, "gone > 0");
        x.cover();
        x.few();
        x.blind(0, 3, 2, 9);
        fits(x, 0, 0, 1, 0);
        x.line(0);
        book(x, "hour 1; m shuts;", 0);
        String told = allToldLast(x);
        field(x, text);
        due("what is so", allThatIsSo(x), allThatIsSo(with(text)));
        due("now(0)", x.now(0), 0);
        due("now(4)", x.now(4), 0);
        due("looker(0, 3)", x.looker(0, 3), 0);
        due("no sentence", x.said(NONE), NONE);
        due("nothing can be undone", x.undo(), NONE);
        due("what other calls told last", allToldLast(x), told);
    }

    @Says(promise = {6, 31}, under = WHAT_WOULD_BE, text = "A call that throws changes nothing.")
    static void throwingChangesNothing() {
        SeenToMove x = with("field 4 4; owner o; figure a o 0 0 east 1; looker m 3 3 west;");
        x.hours(5);
        x.feed(1, 2, 3, 4, 5);
        x.line(0);
        String so = allThatIsSo(x);
        String told = allToldLast(x);
        due("figure(1, 0)", orThrows(() -> x.figure(1, 0)), THROWS);
        due("figure(0, 8)", orThrows(() -> x.figure(0, 8)), THROWS);
        due("mean(2)", orThrows(() -> x.mean(2)), THROWS);
        due("what is so", allThatIsSo(x), so);
        due("what calls told last", allToldLast(x), told);
        due("count(5)", x.count(5), 20);
        due("undo()", x.undo(), 0);
    }
}
