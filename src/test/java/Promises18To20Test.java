/** type, clear, runs. */
public final class Promises18To20Test {
    private static final Check check = new Check("promises 18 to 20");

    public static void main(String[] args) {
        typed();
        faults();
        aRun();
        runsGoOn();
        longestText();
        check.finish();
    }

    private static void typed() {
        LateLines x = new LateLines();
        check.due("clear()", x.clear(), 0);
        check.due("type(0)", x.type(0), 1);
        check.due("type(127)", x.type(127), 2);
        check.due("type(128)", x.type(128), -2);
        check.due("type(-1)", x.type(-1), -2);
        check.due("type(MIN)", x.type(Integer.MIN_VALUE), -2);
        check.due("told(3)", x.told(3), 2);
        for (int i = 3; i <= 120; i++) {
            check.due("type(97)", x.type(97), i);
        }
        check.due("type(97) behind 120", x.type(97), -4);
        check.due("type(59) behind 120", x.type(59), -4);
        check.due("type(200) behind 120", x.type(200), -2);
        check.due("told(0)", x.told(0), 4);
        check.due("told(2)", x.told(2), 2);
        check.due("told(3)", x.told(3), 120);
        check.due("clear()", x.clear(), 120);
        check.due("clear()", x.clear(), 0);
        check.due("type(59)", x.type(59), 1);
        check.due("told(9)", x.told(9), 0);
    }

    private static void faultIs(String text, int fault) {
        LateLines x = new LateLines();
        check.text(x, text);
        long before = x.digest();
        check.due("runs() of [" + text + "]", x.runs(), -10 - fault);
        check.due("best(1) of [" + text + "]", x.best(1), -10 - fault);
        check.due("digest() behind [" + text + "]", x.digest(), before);
        check.due("told(9) behind [" + text + "]", x.told(9), 0);
        check.due("told(0) behind [" + text + "]", x.told(0), 0);
    }

    private static void faults() {
        faultIs("", 0);
        faultIs(" ", 1);
        faultIs("   ", 3);
        faultIs(";", 0);
        faultIs("a", 1);
        faultIs("a ", 2);
        faultIs("a0", 2);
        faultIs("a0 ", 3);
        faultIs("a0=", 3);
        faultIs("a0=1", 4);
        faultIs("a0=12", 5);
        faultIs("a0;b", 4);
        faultIs("a0;b0", 5);
        faultIs("!", 1);
        faultIs("#", 1);
        faultIs("# ", 2);
        faultIs("#7", 2);
        faultIs("q0;", 0);
        faultIs("`0;", 0);
        faultIs("A0;", 0);
        faultIs("a4;", 1);
        faultIs("a/;", 1);
        faultIs("aa;", 1);
        faultIs("a;", 1);
        faultIs("a00;", 2);
        faultIs("a0 0;", 3);
        faultIs("a000;", 2);
        faultIs("a0=;", 3);
        faultIs("a0==1;", 3);
        faultIs("a0=a;", 3);
        faultIs("a0=-1;", 3);
        faultIs("a0=1 2;", 5);
        faultIs("a0=12 3;", 6);
        faultIs("a0=123;", 3);
        faultIs("a0= 123;", 4);
        faultIs("a0=1234;", 3);
        faultIs("a0=123", 3);
        faultIs("a0=000;", 3);
        faultIs("a0=12x;", 5);
        faultIs("a0=123x", 3);
        faultIs("a0=5=6;", 4);
        faultIs("!1;", 1);
        faultIs("!!;", 1);
        faultIs("#;", 1);
        faultIs("#100;", 1);
        faultIs("#1 0;", 3);
        faultIs("#-1;", 1);
        faultIs("a0;;", 3);
        faultIs("a0;\t", 3);
        faultIs("a0;b0;c0;d5;e0;", 10);
        faultIs("a0;#100;q;", 4);
        faultIs("=1;", 0);
        faultIs("0a;", 0);
        faultIs("a0;  b1 = 7 ; ! x", 16);
    }

    private static void aRun() {
        LateLines x = new LateLines();
        check.text(x, "a0;a1=9;e0;!;#3;a1;");
        check.due("runs()", x.runs(), 13);
        check.counts("a run", x, 1, 1, 2, 0, 5, 0, 0, 3, 3, 13);
        check.due("got(2, 0)", x.got(2, 0), 9);
        check.due("got(2, 2)", x.got(2, 2), 13);
        check.due("item(0, 1, 2)", x.item(0, 1, 2), 1);
        check.due("told(9)", x.told(9), 1);
        check.due("told(3)", x.told(3), 19);
        check.text(x, " p 3 = 0 7 ; ".replace("0 7", "07"));
        check.due("runs()", x.runs(), 1);
        check.due("item(15, 3, 1)", x.item(15, 3, 1), 7);
        check.text(x, "p3=0;p3=99;");
        check.due("runs()", x.runs(), 6);
        check.due("item(15, 3, 1)", x.item(15, 3, 1), 99);
        check.text(x, "#99;#00;#0;#1;");
        check.due("runs()", x.runs(), 100);
        check.text(x, "  !  ;  #  4  ;  ");
        check.due("runs()", x.runs(), 5);
    }

    private static void runsGoOn() {
        LateLines x = new LateLines();
        check.text(x, "d2;#2;");
        check.due("runs()", x.runs(), 3);
        check.due("runs()", x.runs(), 3);
        check.due("often(1)", x.often(1), 1);
        check.due("runs()", x.runs(), 3);
        check.due("often(0)", x.often(0), 1);
        check.due("often(9)", x.often(9), 9);
        check.due("told(9)", x.told(9), 3);
        check.text(x, "#0;");
        check.due("runs()", x.runs(), 0);
        check.due("told(9)", x.told(9), 4);
    }

    private static void longestText() {
        LateLines x = new LateLines();
        StringBuilder fences = new StringBuilder();
        for (int i = 0; i < 60; i++) {
            fences.append("!;");
        }
        check.text(x, fences.toString());
        check.due("runs() of 60 fences", x.runs(), 60);
        check.due("best(1) of 60 fences", x.best(1), 60);
        StringBuilder loads = new StringBuilder();
        for (int i = 0; i < 40; i++) {
            loads.append((char) ('a' + i % 16)).append(i % 4).append(';');
        }
        check.text(x, loads.toString());
        x.anew();
        x.runs();
        check.due("often(7) of 40 loads", x.often(7), 40);
        StringBuilder open = new StringBuilder(fences).deleteCharAt(119).append(' ');
        check.text(x, open.toString());
        check.due("runs() of 120 bytes that end too early", x.runs(), -130);
        open.setCharAt(119, '1');
        check.text(x, open.toString());
        check.due("runs() with a FAULT in the last byte", x.runs(), -129);
    }
}
