/** Terms 2: for each sentence that names a boundary case, a test of its own. */
public final class EdgesTerms2Test {
    private static final Check check = new Check("edges of Terms 2");

    private interface Call {
        long on(LateLines x);
    }

    public static void main(String[] args) {
        costAtFirst();
        priceOfEach();
        farBeforeWhatIsDone();
        farBeforeStall();
        hasteBeforeWhatIsDone();
        textOf120Bytes();
        eachEndedBySemicolon();
        lettersAToP();
        figures0To3();
        oneOrTwoFiguresOfAStore();
        pauseOf0To99();
        fenceAlone();
        blanksAnywhere();
        blanksNotInNumbers();
        blanksAlone();
        otherBytes();
        firstByteThatCanNotStand();
        threeFiguresOrMore();
        endsTooEarly();
        emptyText();
        faultDoesNothing();
        faultCountsNothing();
        eachCallToldSLeavesOne();
        otherCallsLeaveNone();
        sixStatesAtMost();
        statesGoRound();
        onFromAState();
        orderOfUseComesBack();
        refusedAndTextStay();
        refusedLeavesNoState();
        badBeforeFull();
        badBeforeNoneAndFault();
        check.finish();
    }

    private static int bits(float f) {
        return Float.floatToIntBits(f);
    }

    private static void costIs(LateLines x, float want) {
        check.due("cost(0) at TICK " + x.often(9), x.cost(0), bits(want));
    }

    private static void costAtFirst() {
        check.of("COST (a float; 0 at first)");
        LateLines x = new LateLines();
        costIs(x, 0f);
        x.ticks(99);
        costIs(x, 0f);
        x.fence();
        costIs(x, 0f);
        x.load(0, 0);
        x.anew();
        costIs(x, 0f);
    }

    private static LateLines small(int shelf) {
        LateLines x = new LateLines();
        x.sets(0, 1);
        x.sets(1, shelf);
        return x;
    }

    private static void priceOfEach() {
        check.of("each HIT 1.5f more, JOIN 0.25f, MISS 4.75f, BACK 2.125f, BOX that goes FAR 3.3f, STALL 0.1f");
        LateLines x = small(1);
        x.store(0, 0, 9);
        costIs(x, 4.75f);
        x.load(0, 0);
        costIs(x, 5f);
        x.load(4, 0);
        costIs(x, 9.75f);
        x.ticks(6);
        costIs(x, 9.75f);
        x.load(0, 0);
        costIs(x, 11.875f);
        x.load(0, 0);
        costIs(x, 13.375f);
        x.fence();
        costIs(x, 13.375f);
        LateLines y = small(1);
        y.store(0, 0, 9);
        y.load(4, 0);
        y.ticks(8);
        costIs(y, 9.5f);
        y.ticks(1);
        costIs(y, 9.5f + 3.3f);
        LateLines z = new LateLines();
        z.sets(4, 1);
        z.sets(3, 1);
        z.sets(4, 2);
        z.load(0, 0);
        z.fence();
        costIs(z, 4.75f + 0.1f);
    }

    /**
     * STALLS and HITS first, a few or many: the sum tells the order in which it was added only where it
     * comes beyond a power of two.
     */
    private static float first(LateLines x, int fences, int hits) {
        float c = 0f;
        for (int i = 0; i < fences; i++) {
            x.load(1 + 4 * (i % 4), 0);
            x.fence();
            c += 4.75f;
            for (int k = 0; k < 5; k++) {
                c += 0.1f;
            }
        }
        x.load(3, 0);
        x.ticks(6);
        c += 4.75f;
        for (int i = 0; i < hits; i++) {
            x.load(3, 0);
            c += 1.5f;
        }
        costIs(x, c);
        return c;
    }

    private static void farBeforeWhatIsDone() {
        check.of("of one TICK: BOXES that go FAR, then what is done");
        int telling = 0;
        for (int times = 0; times < 200; times++) {
            LateLines x = small(1);
            float c = first(x, times / 40, times % 40);
            x.store(0, 0, 9);
            c += 4.75f;
            x.load(4, 0);
            c += 4.75f;
            x.ticks(8);
            costIs(x, c);
            x.load(8, 0);
            telling += c + 3.3f + 4.75f != c + 4.75f + 3.3f ? 1 : 0;
            c += 3.3f;
            c += 4.75f;
            costIs(x, c);
        }
        check.due("some told the order", telling > 0 ? 1 : 0, 1);
    }

    private static void farBeforeStall() {
        check.of("of one TICK: BOXES that go FAR, then STALL");
        int telling = 0;
        for (int times = 0; times < 200; times++) {
            LateLines x = small(1);
            float c = first(x, times / 40, times % 40);
            x.store(0, 0, 9);
            c += 4.75f;
            x.ticks(6);
            x.load(4, 0);
            c += 4.75f;
            x.ticks(6);
            x.load(2, 0);
            c += 4.75f;
            x.fence();
            c += 0.1f;
            telling += c + 3.3f + 0.1f != c + 0.1f + 3.3f ? 1 : 0;
            c += 3.3f;
            for (int i = 0; i < 4; i++) {
                c += 0.1f;
            }
            costIs(x, c);
            check.due("often(4)", x.often(4), 5 * (times / 40) + 5);
        }
        check.due("some told the order", telling > 0 ? 1 : 0, 1);
    }

    private static void hasteBeforeWhatIsDone() {
        check.of("each BOX that goes FAR 3.3f: by HASTE, too, before what is done at that TICK");
        int telling = 0;
        for (int times = 0; times < 200; times++) {
            LateLines x = small(0);
            float c = first(x, times / 40, times % 40);
            x.store(0, 0, 9);
            c += 4.75f;
            x.load(4, 0);
            c += 4.75f;
            x.ticks(5);
            costIs(x, c);
            x.load(4, 0);
            telling += c + 3.3f + 1.5f != c + 1.5f + 3.3f ? 1 : 0;
            c += 3.3f;
            c += 1.5f;
            costIs(x, c);
        }
        check.due("some told the order", telling > 0 ? 1 : 0, 1);
    }

    private static void runIs(String text, int want) {
        LateLines x = new LateLines();
        check.text(x, text);
        check.due("runs() of [" + text + "]", x.runs(), want);
    }

    private static void faultIs(String text, int fault) {
        runIs(text, -10 - fault);
        LateLines x = new LateLines();
        check.text(x, text);
        check.due("best(0) of [" + text + "]", x.best(0), -10 - fault);
        check.due("best(1) of [" + text + "]", x.best(1), -10 - fault);
    }

    private static void textOf120Bytes() {
        check.of("THE TEXT (120 bytes at most)");
        String most = "!;".repeat(60);
        runIs(most, 60);
        LateLines x = new LateLines();
        check.text(x, most);
        check.due("type(59) behind 120", x.type(59), -4);
        check.due("runs()", x.runs(), 60);
        check.due("best(1)", x.best(1), 60);
        runIs(" ".repeat(118) + "!;", 1);
        runIs("!;" + " ".repeat(118), 1);
        runIs("#" + " ".repeat(116) + "12;", 12);
        faultIs("!".repeat(120), 1);
        faultIs("!;".repeat(59) + "!!", 119);
        faultIs(" ".repeat(119) + "q", 119);
        faultIs("!;".repeat(59) + "#1", 120);
        faultIs("a0=" + "1".repeat(117), 3);
    }

    private static void eachEndedBySemicolon() {
        check.of("ORDERS, each ended by ;");
        runIs("!;", 1);
        runIs("!;!;", 2);
        faultIs("!!;", 1);
        faultIs(";", 0);
        faultIs("!;;", 2);
        faultIs("a0b0;", 2);
        faultIs("a0=1b0;", 4);
        faultIs("#1#1;", 2);
        faultIs("!:", 1);
        faultIs("!<", 1);
    }

    private static void lettersAToP() {
        check.of("a letter a .. p (BOX)");
        for (int b = 0; b < 16; b++) {
            LateLines x = new LateLines();
            check.text(x, (char) ('a' + b) + "0;");
            check.due("runs()", x.runs(), 1);
            check.due("where(" + b + ")", x.where(b), 3);
        }
        faultIs("`0;", 0);
        faultIs("q0;", 0);
        faultIs("A0;", 0);
        faultIs("P0;", 0);
        faultIs("0;", 0);
    }

    private static void figures0To3() {
        check.of("and a figure 0 .. 3");
        for (int j = 0; j < 4; j++) {
            LateLines x = new LateLines();
            check.text(x, "p" + j + ";#6;");
            check.due("runs()", x.runs(), 7);
            check.due("got(0, 0)", x.got(0, 0), 75 + j);
        }
        faultIs("a/;", 1);
        faultIs("a4;", 1);
        faultIs("a9;", 1);
        faultIs("a;", 1);
        faultIs("a=1;", 1);
        faultIs("ab0;", 1);
        faultIs("a00;", 2);
        faultIs("a03;", 2);
        faultIs("a0 0;", 3);
    }

    private static void storeIs(String text, int value) {
        LateLines x = new LateLines();
        check.text(x, text);
        check.due("runs() of " + text, x.runs(), 1);
        check.due("item(2, 3, 1) by " + text, x.item(2, 3, 1), value);
        check.due("often(7) by " + text, x.often(7), 0);
    }

    private static void oneOrTwoFiguresOfAStore() {
        check.of("with = and 1 or 2 figures behind: a STORE");
        storeIs("c3=0;", 0);
        storeIs("c3=9;", 9);
        storeIs("c3=00;", 0);
        storeIs("c3=01;", 1);
        storeIs("c3=10;", 10);
        storeIs("c3=99;", 99);
        faultIs("c3=;", 3);
        faultIs("c3=000;", 3);
        faultIs("c3=100;", 3);
        faultIs("c3=-1;", 3);
        faultIs("c3=/;", 3);
        faultIs("c3=:;", 3);
        faultIs("c3==1;", 3);
        faultIs("c3=1=1;", 4);
        faultIs("!=1;", 1);
        faultIs("c=3;", 1);
    }

    private static void pauseOf0To99() {
        check.of("# and 1 or 2 figures: so many TICKS go by with nothing to be done (0 .. 99)");
        runIs("#0;", 0);
        runIs("#00;", 0);
        runIs("#1;", 1);
        runIs("#9;", 9);
        runIs("#09;", 9);
        runIs("#10;", 10);
        runIs("#99;", 99);
        faultIs("#;", 1);
        faultIs("#100;", 1);
        faultIs("#099;", 1);
        faultIs("#000;", 1);
        faultIs("#-1;", 1);
        faultIs("##1;", 1);
        faultIs("#1=1;", 2);
        LateLines x = new LateLines();
        check.text(x, "#5;");
        x.runs();
        check.counts("#5;", x, 0, 0, 0, 0, 0, 0, 0, 0, 0, 5);
    }

    private static void fenceAlone() {
        check.of("! a FENCE");
        runIs("a0;!;", 7);
        faultIs("!0;", 1);
        faultIs("!a0;", 1);
        faultIs("1!;", 0);
    }

    private static void blanksAnywhere() {
        check.of("Blanks (32) may stand anywhere");
        LateLines x = new LateLines();
        check.text(x, "  c  3  =  45  ;  !  ;  #  67  ;  ");
        check.due("runs()", x.runs(), 74);
        check.due("item(2, 3, 1)", x.item(2, 3, 1), 45);
        runIs(" a0;", 1);
        runIs("a 0;", 1);
        runIs("a0 ;", 1);
        runIs("a0; ", 1);
        runIs("a0 =1;", 1);
        runIs("a0= 1;", 1);
        runIs("a0=1 ;", 1);
        runIs(" !;", 1);
        runIs("! ;", 1);
        runIs(" #1;", 1);
        runIs("# 1;", 1);
        runIs("#1 ;", 1);
    }

    private static void blanksNotInNumbers() {
        check.of("but in numbers");
        faultIs("a0=1 2;", 5);
        faultIs("a0=1  2;", 6);
        faultIs("a0=12 3;", 6);
        faultIs("a0=1 23;", 5);
        faultIs("a0=1 234;", 5);
        faultIs("#1 2;", 3);
        faultIs("#12 3;", 4);
    }

    private static void blanksAlone() {
        check.of("the TEXT's length, if it ends too early: of blanks alone");
        faultIs(" ", 1);
        faultIs("  ", 2);
        faultIs(" ".repeat(120), 120);
    }

    private static void otherBytes() {
        check.of("the place of the first byte that can not stand there");
        for (int c = 0; c < 128; c++) {
            boolean starts = c >= 'a' && c <= 'p' || c == '!' || c == '#' || c == ' ';
            faultIs("" + (char) c, starts ? 1 : 0);
            boolean ends = c == ';';
            runIs("!" + (char) c, ends ? 1 : c == ' ' ? -12 : -11);
            boolean goesOn = c == '=' || c == ' ';
            runIs("b0" + (char) c, ends ? 1 : goesOn ? -13 : -12);
            boolean figure = c >= '0' && c <= '9';
            faultIs("b0=" + (char) c, figure || c == ' ' ? 4 : 3);
            faultIs("#" + (char) c, figure || c == ' ' ? 2 : 1);
            faultIs("b" + (char) c, c >= '0' && c <= '3' || c == ' ' ? 2 : 1);
        }
    }

    private static void firstByteThatCanNotStand() {
        check.of("FAULT: the place of the first byte that can not stand there");
        faultIs("x;", 0);
        faultIs("a0;x;", 3);
        faultIs("a0;b1;x;y;", 6);
        faultIs("  x", 2);
        faultIs("a0=1x;", 4);
        faultIs("a0=12x;", 5);
        faultIs("a4;q0;", 1);
        faultIs("a0;#100;q;", 4);
        faultIs("q;#100;", 0);
    }

    private static void threeFiguresOrMore() {
        check.of("of a number of three figures or more: its first byte");
        faultIs("a0=123;", 3);
        faultIs("a0=1234;", 3);
        faultIs("a0= 123;", 4);
        faultIs("a0=123", 3);
        faultIs("a0=123x", 3);
        faultIs("#123;", 1);
        faultIs("#  123;", 3);
        faultIs("!;#123", 3);
        faultIs("a0=12", 5);
        faultIs("#12", 3);
    }

    private static void endsTooEarly() {
        check.of("the TEXT's length, if it ends too early");
        faultIs("a", 1);
        faultIs("a ", 2);
        faultIs("a0", 2);
        faultIs("a0 ", 3);
        faultIs("a0=", 3);
        faultIs("a0= ", 4);
        faultIs("a0=1", 4);
        faultIs("a0=12", 5);
        faultIs("a0=12 ", 6);
        faultIs("!", 1);
        faultIs("#", 1);
        faultIs("# ", 2);
        faultIs("#1", 2);
        faultIs("#12", 3);
        faultIs("a0;b", 4);
        faultIs("a0;b1", 5);
    }

    private static void emptyText() {
        check.of("an empty one, too");
        faultIs("", 0);
        LateLines x = new LateLines();
        check.text(x, "a0;");
        x.clear();
        check.due("runs() after clear()", x.runs(), -10);
    }

    private static LateLines busy() {
        LateLines x = small(1);
        x.store(0, 0, 90);
        x.load(1, 1);
        x.ticks(6);
        x.load(4, 1);
        x.ticks(6);
        x.load(9, 2);
        x.store(9, 3, 77);
        return x;
    }

    private static void faultDoesNothing() {
        check.of("If there is one, nothing is done");
        for (String text : new String[] {"a0;b0;x", "a0;!;#9;b1=2", "", "#9;#100;"}) {
            LateLines x = busy();
            LateLines y = busy();
            check.text(x, text);
            check.text(y, text);
            check.due("runs() is refused", x.runs() <= -10 ? 1 : 0, 1);
            check.due("all stays by [" + text + "]", Picture.of(x).equals(Picture.of(y)) ? 1 : 0, 1);
        }
    }

    private static void faultCountsNothing() {
        check.of("By a FAULT nothing counts");
        LateLines x = busy();
        check.text(x, "a0;x");
        x.runs();
        x.best(0);
        x.best(1);
        x.clear();
        x.runs();
        for (int i = 0; i < 3; i++) {
            check.due("told(" + i + ")", x.told(i), 0);
        }
    }

    private static LateLines begun() {
        LateLines x = new LateLines();
        check.text(x, "#3;");
        x.store(5, 1, 6);
        x.load(9, 2);
        return x;
    }

    private static void leavesOne(String call, Call c) {
        LateLines x = begun();
        LateLines y = begun();
        c.on(x);
        check.due("told(9) behind " + call, x.told(9), 3);
        check.due("back() behind " + call, x.back(), 2);
        check.due("as before " + call, Picture.of(x).equals(Picture.of(y)) ? 1 : 0, 1);
    }

    private static void eachCallToldSLeavesOne() {
        check.of("STATES: each call told S leaves one to go back to");
        leavesOne("sets(0, 3)", x -> x.sets(0, 3));
        leavesOne("anew()", x -> x.anew());
        leavesOne("load(1, 1)", x -> x.load(1, 1));
        leavesOne("store(1, 1, 1)", x -> x.store(1, 1, 1));
        leavesOne("fence()", x -> x.fence());
        leavesOne("ticks(9)", x -> x.ticks(9));
        leavesOne("draw(5, 9)", x -> x.draw(5, 9));
        leavesOne("runs()", x -> x.runs());
        check.of("STATES: one is left, though nothing became other");
        leavesOne("sets(0, 2)", x -> x.sets(0, 2));
        leavesOne("ticks(0)", x -> x.ticks(0));
        LateLines x = new LateLines();
        x.anew();
        check.due("told(9) behind anew() of a new object", x.told(9), 1);
    }

    private static void leavesNone(String call, Call c) {
        LateLines x = busy();
        c.on(x);
        check.due("told(9) behind " + call, x.told(9), 6);
        LateLines y = new LateLines();
        c.on(y);
        check.due("told(9) behind " + call + " of a new object", y.told(9), 0);
    }

    private static void otherCallsLeaveNone() {
        check.of("STATES: each call told S leaves one, no other does");
        leavesNone("got(0, 0)", x -> x.got(0, 0));
        leavesNone("often(0)", x -> x.often(0));
        leavesNone("where(0)", x -> x.where(0));
        leavesNone("item(0, 0, 0)", x -> x.item(0, 0, 0));
        leavesNone("place(0, 0)", x -> x.place(0, 0));
        leavesNone("fetch(0, 0)", x -> x.fetch(0, 0));
        leavesNone("cost(0)", x -> x.cost(0));
        leavesNone("even()", x -> x.even());
        leavesNone("type(33)", x -> x.type(33));
        leavesNone("clear()", x -> x.clear());
        leavesNone("told(0)", x -> x.told(0));
        leavesNone("digest()", x -> x.digest());
        LateLines x = new LateLines();
        check.text(x, "a0;");
        x.best(0);
        x.best(1);
        check.due("told(9) behind best()", x.told(9), 0);
    }

    private static void sixStatesAtMost() {
        check.of("6 at most, older ones lost");
        for (int calls = 1; calls <= 20; calls++) {
            LateLines x = new LateLines();
            for (int i = 1; i <= calls; i++) {
                x.ticks(i);
                check.due("told(9)", x.told(9), i < 6 ? i : 6);
            }
            int kept = calls < 6 ? calls : 6;
            for (int i = 1; i <= kept; i++) {
                check.due("back()", x.back(), kept - i);
                check.due("often(9)", x.often(9), (calls - i) * (calls - i + 1) / 2);
            }
            check.due("back() with none left", x.back(), -3);
            check.due("often(9)", x.often(9), (calls - kept) * (calls - kept + 1) / 2);
        }
    }

    private static void statesGoRound() {
        check.of("6 at most: a STATE that was gone back to makes room for another");
        LateLines x = new LateLines();
        for (int i = 0; i < 6; i++) {
            x.ticks(1);
        }
        for (int i = 0; i < 20; i++) {
            check.due("back()", x.back(), 5);
            x.ticks(1);
            check.due("told(9)", x.told(9), 6);
            check.due("often(9)", x.often(9), 6);
        }
        for (int i = 5; i >= 0; i--) {
            check.due("back()", x.back(), i);
            check.due("often(9)", x.often(9), i);
        }
    }

    /** What is not told by itself has come back, too, if what follows is as it would have been. */
    private static void onFromAState() {
        check.of("a STATE: all but how often was refused, THE TEXT; what follows is as it would have been");
        for (int wait = 0; wait < 12; wait++) {
            for (int kind = 0; kind < 4; kind++) {
                LateLines x = waiting(wait);
                LateLines y = waiting(wait);
                x.anew();
                x.draw(wait, 40);
                x.sets(0, 1 + kind % 3);
                x.draw(wait + 50, 40);
                for (int i = 0; i < 4; i++) {
                    x.back();
                }
                goOn(x, kind);
                goOn(y, kind);
                String same = Picture.ofTheStore(y);
                check.due("kind " + kind + ", " + wait, Picture.ofTheStore(x).equals(same) ? 1 : 0, 1);
            }
        }
    }

    private static LateLines waiting(int wait) {
        LateLines x = small(1);
        x.sets(3, 3);
        x.load(12, 0);
        x.ticks(6);
        x.store(0, 0, 90);
        x.store(1, 1, 91);
        x.ticks(6);
        x.load(1, 3);
        x.load(4, 2);
        x.load(9, 1);
        x.store(4, 2, 92);
        x.load(4, 2);
        x.ticks(wait);
        return x;
    }

    private static void goOn(LateLines x, int kind) {
        if (kind == 0) {
            x.fence();
        } else if (kind == 1) {
            x.load(0, 0);
            x.store(9, 2, 93);
            x.load(13, 1);
            x.ticks(4);
        } else if (kind == 2) {
            x.load(2, 0);
            x.load(6, 0);
            x.load(3, 0);
        } else {
            x.ticks(40);
            x.load(1, 1);
        }
    }

    private static void orderOfUseComesBack() {
        check.of("a STATE: PLACES of a ROW in their order of use");
        LateLines x = new LateLines();
        x.sets(0, 3);
        for (int b = 0; b < 12; b += 4) {
            x.load(b, 0);
            x.ticks(6);
        }
        for (int b = 0; b < 12; b += 4) {
            x.load(b, 1);
            check.due("place(0, 0)", x.place(0, 0), b);
            x.back();
            for (int k = 0; k < 3; k++) {
                check.due("place(0, " + k + ") after back()", x.place(0, k), 8 - 4 * k);
            }
        }
        x.load(0, 0);
        x.back();
        x.load(12, 0);
        x.ticks(6);
        check.due("where(0): it was used least lately", x.where(0), 0);
        check.due("where(4)", x.where(4), 1);
    }

    private static void refusedAndTextStay() {
        check.of("a STATE: all but how often was refused, THE TEXT");
        LateLines x = new LateLines();
        x.back();
        x.type('a');
        x.sets(0, 3);
        x.load(16, 0);
        x.back();
        x.back();
        for (int i = 0; i < 121; i++) {
            x.type('b');
        }
        x.sets(1, 3);
        x.often(10);
        check.due("back()", x.back(), 0);
        int[] want = {2, 2, 2, 120, 2, 1, 2, 2, 6, 0};
        for (int i = 0; i < 10; i++) {
            check.due("told(" + i + ")", x.told(i), want[i]);
        }
        LateLines y = new LateLines();
        y.type('!');
        y.ticks(1);
        y.type(';');
        y.back();
        check.due("runs()", y.runs(), 1);
    }

    private static void refusedLeavesNoState() {
        check.of("Refused, changing nothing but how often");
        LateLines x = new LateLines();
        x.ticks(1);
        x.sets(5, 1);
        x.load(16, 0);
        x.store(0, 4, 0);
        x.ticks(100);
        x.draw(0, 0);
        x.runs();
        check.due("told(9)", x.told(9), 1);
        check.due("told(0)", x.told(0), 5);
        check.due("often(9)", x.often(9), 1);
        check.due("back()", x.back(), 0);
        check.due("often(9)", x.often(9), 0);
    }

    private static void badBeforeFull() {
        check.of("the first of: BAD -2, NO -3, FULL -4");
        LateLines x = new LateLines();
        for (int i = 0; i < 120; i++) {
            x.type(' ');
        }
        check.due("type(128) behind 120", x.type(128), -2);
        check.due("type(-1) behind 120", x.type(-1), -2);
        check.due("type(127) behind 120", x.type(127), -4);
        check.due("back()", x.back(), -3);
        check.due("told(0)", x.told(0), 2);
        check.due("told(1)", x.told(1), 1);
        check.due("told(2)", x.told(2), 1);
        check.due("told(3)", x.told(3), 120);
    }

    private static void badBeforeNoneAndFault() {
        check.of("BAD -2 a number is not as told: before NONE and before a FAULT");
        LateLines x = new LateLines();
        check.due("best(2) of an empty TEXT", x.best(2), -2);
        check.due("best(-1) of an empty TEXT", x.best(-1), -2);
        check.due("got(9, 3)", x.got(9, 3), -2);
        check.due("place(0, 3)", x.place(0, 3), -2);
        check.due("fetch(9, 3)", x.fetch(9, 3), -2);
        check.due("got(9, 2)", x.got(9, 2), -1);
        check.due("place(0, 2)", x.place(0, 2), -1);
        check.due("fetch(9, 2)", x.fetch(9, 2), -1);
        check.due("told(0)", x.told(0), 5);
        check.due("store of three wrong numbers counts once", x.store(-1, -1, -1), -2);
        check.due("told(0)", x.told(0), 6);
    }
}
