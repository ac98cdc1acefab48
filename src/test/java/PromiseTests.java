/** For each promise: ordinary inputs, the edges that the document names, wrong inputs. */
public final class PromiseTests {
    private static int wrong = 0;
    private static int promise = 0;
    private static int asked = 0;

    private static final int BAD = -1, NO = -2, FULL = -3, NONE = -4;

    private static void due(String call, int got, int want) {
        asked++;
        if (got != want) {
            wrong++;
            System.out.println("promise " + promise + ": " + call + " answered " + got + ", due is " + want);
        }
    }

    private static void write(SecondTill x, String text) {
        for (int i = 0; i < text.length(); i++) {
            x.write(text.charAt(i));
        }
    }

    private static SecondTill laid(String text) {
        SecondTill x = new SecondTill();
        write(x, text);
        if (x.lay() < 1) {
            wrong++;
            System.out.println("promise " + promise + ": the text " + text + " was not laid");
        }
        return x;
    }

    private static int faultOf(String text) {
        SecondTill x = new SecondTill();
        write(x, text);
        return x.fault();
    }

    private static void persons(SecondTill x, String label, int[][] rows) {
        due(label + " count(0)", x.count(0), rows.length);
        for (int i = 0; i < rows.length; i++) {
            for (int what = 0; what < 3; what++) {
                due(label + " person(" + i + ", " + what + ")", x.person(i, what), rows[i][what]);
            }
        }
    }

    private static void counts(SecondTill x, String label, int... wants) {
        for (int what = 0; what < wants.length; what++) {
            due(label + " count(" + what + ")", x.count(what), wants[what]);
        }
    }

    private static final int[][] AT_FIRST = {
        {0, 6, 2}, {1, 4, 3}, {2, 9, 2}, {3, 2, 4}, {1, 7, 1}, {2, 3, 2}};

    public static void main(String[] args) {
        newObject();
        text();
        fault();
        lay();
        person();
        come();
        leave();
        pass();
        slow();
        undo();
        goes();
        goingBack();
        done();
        overtaken();
        best();
        fair();
        oneRow();
        called();
        open();
        tape();
        kinds();
        beaten();
        learner();
        day();
        keepAndBack();
        count();
        System.out.println(asked + " answers asked for, " + wrong + " not as due");
        if (wrong != 0) {
            System.exit(1);
        }
    }

    private static void newObject() {
        promise = 1;
        due("BAD", SecondTill.BAD, -1);
        due("NO", SecondTill.NO, -2);
        due("FULL", SecondTill.FULL, -3);
        due("NONE", SecondTill.NONE, -4);
        SecondTill x = new SecondTill();
        persons(x, "at first", AT_FIRST);
        counts(x, "at first", 6, 2, 3, 3, 0, 0, 0, 0);
        due("two objects share nothing", new SecondTill().come(0, 1, 1), 7);
        due("two objects share nothing", x.count(0), 6);
    }

    private static void text() {
        promise = 2;
        SecondTill x = new SecondTill();
        due("write(31)", x.write(31), BAD);
        due("write(127)", x.write(127), BAD);
        due("write(-1)", x.write(-1), BAD);
        due("write(32 + 65536)", x.write(32 + 65536), BAD);
        due("write(32)", x.write(32), 1);
        due("write(126)", x.write(126), 2);
        for (int i = 3; i <= 200; i++) {
            due("write, the letter " + i, x.write('p'), i);
        }
        due("write(112), full", x.write(112), FULL);
        due("write(31), full: the first of several", x.write(31), BAD);
        due("count(7)", x.count(7), 200);
        promise = 3;
        due("wipe()", x.wipe(), 200);
        due("wipe() again", x.wipe(), 0);
        due("count(7)", x.count(7), 0);
        due("write behind wipe", x.write('d'), 1);
        due("THE ROW is not wiped", x.count(0), 6);
    }

    private static void fault() {
        promise = 4;
        due("nothing", faultOf(""), NONE);
        String[] good = {
            "p0,1,1;", "p3,20,9;", "p03,01,09;", "p00,20,09;", "s1,9;", "s09,01;", "d0;", "d20;", "d00;",
            "s1,1;s2,2;", "d1;d2;", "d1;s1,1;p0,1,1;", "p0,1,1;p0,1,1;p0,1,1;p0,1,1;p0,1,1;p0,1,1;p0,1,1;p0,1,1;"};
        for (String text : good) {
            due("fault of " + text, faultOf(text), NONE);
        }
        String[] bad = {
            "p4,1,1;", "p0,0,1;", "p0,21,1;", "p0,1,0;", "p0,1,10;", "p0,1;", "p0,1,1,1;", "p0,1,1", "p0,1,1,",
            "p0,1,", "p0,1", "p0,", "p0", "p", "p;", "p,1,1;", "p0,,1;", "p000,1,1;", "p0,001,1;", "p0,1,001;",
            "p0;1;1;", "p0,1,1:", "p 0,1,1;", "p-0,1,1;", "P0,1,1;", "x1;", ";", ",", " ", "7", "0,1,1;",
            "s0,1;", "s1,0;", "s10,1;", "s1,10;", "s1;", "s1,1,1;", "s1,1", "s", "s,1;", "d21;", "d99;", "d;",
            "d1,1;", "d1", "d", "d001;", "d1/;", "d:;", "dd1;"};
        for (String text : bad) {
            due("fault of " + text, faultOf(text), 0);
            due("fault of d7;p2,3,4;" + text, faultOf("d7;p2,3,4;" + text), 10);
            due("fault of " + text + "p0,1,1;", faultOf("d1;" + text + "p9,1,1;"), 3);
        }
        due("the ninth", faultOf("p0,1,1;p0,1,1;p0,1,1;p0,1,1;s1,1;p0,1,1;p0,1,1;p0,1,1;p0,1,1;d1;p0,1,1;x"), 64);
        SecondTill x = new SecondTill();
        StringBuilder full = new StringBuilder();
        for (int i = 0; i < 66; i++) {
            full.append("d1;");
        }
        write(x, full.toString());
        due("66 items", x.fault(), NONE);
        write(x, "s1");
        due("an item that the end cuts off", x.fault(), 198);
        due("fault changes nothing", x.count(0), 6);
    }

    private static void lay() {
        promise = 5;
        SecondTill x = new SecondTill();
        due("lay() of nothing", x.lay(), NO);
        write(x, "s5,5;d9;");
        due("lay() of nobody", x.lay(), NO);
        x.tape(0, 0);
        x.keep();
        x.slow(4);
        write(x, "p0,5,5;p");
        due("lay() with a fault", x.lay(), NO);
        persons(x, "not laid", AT_FIRST);
        counts(x, "not laid", 6, 2, 4, 3, 1, 1, 1, 16);
        write(x, "3,7,2;");
        due("lay()", x.lay(), 2);
        persons(x, "laid", new int[][] {{0, 5, 5}, {3, 7, 2}});
        counts(x, "laid", 2, 5, 5, 9, 0, 0, 0, 22);
        due("undo()", x.undo(), NO);
        due("back()", x.back(), NO);
        x.leave(0);
        due("lay() again: the text stands", x.lay(), 2);
        due("undo()", x.undo(), NO);
        SecondTill y = laid("p1,1,1;");
        counts(y, "without s and d", 1, 2, 2, 2);
        SecondTill z = laid("s1,2;d3;p02,20,09;s4,5;d6;");
        counts(z, "the last one", 1, 4, 5, 6);
        persons(z, "two figures", new int[][] {{2, 20, 9}});
    }

    private static void person() {
        promise = 6;
        SecondTill x = new SecondTill();
        int[] seconds = {18, 24, 14, 24, 5, 8};
        for (int i = 0; i < 6; i++) {
            due("person(" + i + ", 3)", x.person(i, 3), seconds[i]);
        }
        due("person(-1, 0)", x.person(-1, 0), BAD);
        due("person(6, 0)", x.person(6, 0), BAD);
        due("person(0, -1)", x.person(0, -1), BAD);
        due("person(0, 4)", x.person(0, 4), BAD);
        due("D 0", laid("p0,1,7;d0;").person(0, 3), 7);
        due("D 20", laid("p0,1,9;p0,1,1;p0,1,1;p0,1,1;p0,1,1;p0,1,1;p0,1,1;p0,1,1;d20;").person(0, 3), 252);
    }

    private static void come() {
        promise = 7;
        SecondTill x = new SecondTill();
        int[][] bad = {{-1, 1, 1}, {4, 1, 1}, {0, 0, 1}, {0, 21, 1}, {0, 1, 0}, {0, 1, 10}};
        for (int[] row : bad) {
            due("come, bad", x.come(row[0], row[1], row[2]), BAD);
        }
        counts(x, "bad ones do not come", 6, 2, 3, 3, 0, 0, 0, 0);
        x.tape(0, 0);
        due("come(3, 20, 9)", x.come(3, 20, 9), 7);
        due("the tape", x.count(4), 0);
        due("come(0, 1, 1)", x.come(0, 1, 1), 8);
        x.tape(0, 0);
        due("come, full", x.come(0, 1, 1), FULL);
        due("come, full and bad", x.come(0, 1, 10), BAD);
        counts(x, "full", 8, 2, 3, 3, 1, 2, 0, 0);
        persons(x, "came", new int[][] {
            {0, 6, 2}, {1, 4, 3}, {2, 9, 2}, {3, 2, 4}, {1, 7, 1}, {2, 3, 2}, {3, 20, 9}, {0, 1, 1}});
        due("person(7, 3)", x.person(7, 3), 4);
    }

    private static void leave() {
        promise = 8;
        SecondTill x = new SecondTill();
        due("leave(-1)", x.leave(-1), BAD);
        due("leave(6)", x.leave(6), BAD);
        due("count(5)", x.count(5), 0);
        x.tape(5, 0);
        due("leave(5)", x.leave(5), 5);
        due("the tape", x.count(4), 0);
        due("leave(5), gone", x.leave(5), BAD);
        due("leave(1)", x.leave(1), 4);
        persons(x, "left", new int[][] {{0, 6, 2}, {2, 9, 2}, {3, 2, 4}, {1, 7, 1}});
        for (int left = 3; left >= 0; left--) {
            due("leave(0)", x.leave(0), left);
        }
        due("leave(0), nobody", x.leave(0), BAD);
        due("count(5)", x.count(5), 6);
    }

    private static void pass() {
        promise = 9;
        SecondTill x = new SecondTill();
        due("pass(0)", x.pass(0), BAD);
        due("pass(201)", x.pass(201), BAD);
        due("pass(-5)", x.pass(-5), BAD);
        due("count(5)", x.count(5), 0);
        x.tape(0, 0);
        due("pass(11)", x.pass(11), 6);
        due("a thing that is begun is not through", x.person(0, 1), 1);
        due("the tape", x.count(4), 0);
        due("pass(1)", x.pass(1), 6);
        due("what was begun is begun anew", x.person(0, 1), 1);
        due("pass(2)", x.pass(2), 5);
        due("pass(27)", x.pass(27), 3);
        persons(x, "over several", new int[][] {{3, 2, 4}, {1, 7, 1}, {2, 3, 2}});
        due("pass(24)", x.pass(24), 0);
        due("pass(200), nobody", x.pass(200), 0);
        due("count(5)", x.count(5), 6);
        due("pass(200), V 9", laid("p0,20,1;p0,3,1;s9,1;").pass(200), 1);
        SecondTill y = laid("p0,20,1;p0,3,1;s9,1;");
        y.pass(180);
        persons(y, "just through", new int[][] {{0, 3, 1}});
    }

    private static void slow() {
        promise = 10;
        SecondTill x = new SecondTill();
        due("slow(0)", x.slow(0), BAD);
        due("slow(10)", x.slow(10), BAD);
        due("count(5)", x.count(5), 0);
        x.tape(4, 1);
        due("slow(9)", x.slow(9), 3);
        due("THE ROW is as it was: the tape", x.count(4), 1);
        due("slow(1)", x.slow(1), 9);
        due("slow(1) again", x.slow(1), 1);
        due("count(2)", x.count(2), 1);
        due("count(5)", x.count(5), 3);
        due("count(1)", x.count(1), 2);
    }

    private static void undo() {
        promise = 11;
        SecondTill x = new SecondTill();
        due("undo() at first", x.undo(), NO);
        x.come(1, 2, 3);
        x.slow(7);
        x.leave(0);
        x.pass(20);
        x.tape(0, 0);
        due("undo()", x.undo(), 3);
        due("the tape", x.count(4), 0);
        persons(x, "pass undone", new int[][] {{1, 4, 3}, {2, 9, 2}, {3, 2, 4}, {1, 7, 1}, {2, 3, 2}, {1, 2, 3}});
        due("undo()", x.undo(), 2);
        due("person(0, 1)", x.person(0, 1), 6);
        due("U is as it was set", x.count(2), 7);
        x.tape(0, 0);
        due("undo()", x.undo(), 1);
        due("U is as it was", x.count(2), 3);
        due("the tape", x.count(4), 0);
        due("undo()", x.undo(), 0);
        persons(x, "all undone", AT_FIRST);
        x.tape(0, 0);
        due("undo()", x.undo(), NO);
        due("the tape, where nothing is undone", x.count(4), 1);
        for (int u = 1; u <= 9; u++) {
            x.slow(u);
        }
        due("8 at most", x.count(5), 8);
        for (int left = 7; left >= 0; left--) {
            due("undo()", x.undo(), left);
            due("U", x.count(2), left + 1);
        }
        due("undo()", x.undo(), NO);
    }

    private static void goes() {
        promise = 12;
        SecondTill x = new SecondTill();
        due("goes(-1)", x.goes(-1), 56);
        due("goes(0)", x.goes(0), 4);
        due("goes(1)", x.goes(1), 5);
        due("goes(2)", x.goes(2), 3);
        due("goes(3)", x.goes(3), NONE);
        due("goes(7)", x.goes(7), NONE);
        due("goes(8)", x.goes(8), BAD);
        due("goes(-2)", x.goes(-2), BAD);
        due("goes changes nothing", x.count(5), 0);
        due("STAYING", laid("p0,20,1;p0,20,1;s9,1;d0;").goes(-1), 0);
        due("RUNNING at the head stays", laid("p1,9,1;").goes(-1), 0);
        due("RUNNING, one ahead, none went", laid("p0,1,1;p1,9,1;s1,9;").goes(-1), 2);
        due("RUNNING, one ahead, one went", laid("p0,1,1;p1,9,2;p1,9,1;s1,9;").goes(-1), 4);
        due("RUNNING, two ahead, one went", laid("p0,1,1;p0,1,1;p1,9,2;p1,9,1;s1,9;").goes(-1), 12);
        // 1 goes; ahead of 2 only 0 stays, and one went.
        due("a boy is none who stays", laid("p0,9,9;p3,9,1;p1,1,9;s9,1;d0;").goes(-1), 2);
        due("SHARP, as soon", laid("p0,2,1;p2,1,1;s1,2;d0;").goes(-1), 0);
        due("SHARP, sooner", laid("p0,3,1;p2,1,1;s1,2;d0;").goes(-1), 2);
        due("SHARP, as soon by the walk", laid("p0,3,1;p2,1,1;s1,2;d1;").goes(-1), 0);
        due("SHARP, behind one there", laid("p0,9,1;p2,2,1;p1,4,1;s1,2;d0;").goes(-1), 4);
        due("of several the last first", laid("p0,20,1;p2,5,2;p2,5,4;s2,2;d1;").goes(0), 1);
        SecondTill ties = laid("p0,20,1;p2,5,2;p2,5,3;s2,2;d1;");
        due("of several the last first", ties.person(1, 3), ties.person(2, 3));
        due("of several the last first", ties.goes(0), 2);
        due("of several the last first", ties.goes(1), 1);
        SecondTill nobody = laid("p0,1,1;");
        nobody.leave(0);
        due("nobody: goes(-1)", nobody.goes(-1), 0);
        due("nobody: goes(0)", nobody.goes(0), NONE);
    }

    private static void goingBack() {
        promise = 12;
        // 2: there at 2, DONE at 22, THE ROW 34: goes. 1: one stays ahead, one went: stays.
        SecondTill y = laid("p0,4,9;p1,9,2;p3,4,1;p0,1,9;s2,5;d0;");
        due("he gains there", y.goes(-1), 4);
        SecondTill w = laid("p2,20,3;p3,5,1;p0,3,9;s2,1;d5;");
        // 1: there at 7, DONE at 12, THE ROW 50: goes. 0: there at 24, DONE at 44, 40 in THE ROW: stays.
        due("goes(-1)", w.goes(-1), 2);
        SecondTill v = laid("p2,20,2;p3,5,1;p0,3,9;s2,1;d5;");
        // 0: there at 16, DONE at 36, 40 in THE ROW: goes; then 1 is DONE at 10 in THE ROW, not at 12.
        due("he goes back", v.goes(-1), 1);
        due("he goes back", v.goes(0), 0);
        due("he goes back", v.goes(1), NONE);
        // As v, but 1 is there at 5 and DONE at 10, as at his place.
        due("as soon is not sooner", laid("p2,20,2;p3,5,1;p0,3,9;s2,1;d3;").goes(-1), 3);
        promise = 13;
        due("at his place again", v.done(1, 1), 10);
        due("who went is as he was", v.done(0, 1), 36);
        due("those behind wait for him", v.done(2, 1), 16);
        SecondTill u = laid("p2,20,1;p3,5,1;p0,3,9;s2,1;d5;");
        // 0: there at 8, but 1 is DONE there at 12: 32. 1 goes back (10); 0 is not served sooner.
        due("those behind him there gain nothing", u.done(0, 1), 32);
        due("those behind him there gain nothing", u.done(1, 1), 10);
        SecondTill t = laid("p2,20,2;p3,6,1;p3,5,1;s2,1;d5;");
        // 2: there at 6, DONE at 11, 62 in THE ROW: goes. 1: at 7, DONE at 17, 52: goes.
        // 0: at 16, DONE at 37, 40: goes. Then 1 goes back (12, not 17); 2 would be DONE at 22, not 11.
        promise = 12;
        due("the lowest first: goes(-1)", t.goes(-1), 5);
        promise = 13;
        due("the lowest first: done(1, 1)", t.done(1, 1), 12);
        due("the lowest first: done(2, 1)", t.done(2, 1), 11);
        due("the lowest first: done(0, 1)", t.done(0, 1), 37);
    }

    private static void done() {
        promise = 13;
        SecondTill x = new SecondTill();
        int[] opened = {12, 20, 38, 41, 26, 35};
        int[] closed = {12, 20, 38, 42, 56, 62};
        for (int i = 0; i < 6; i++) {
            due("done(" + i + ", 1)", x.done(i, 1), opened[i]);
            due("done(" + i + ", 0)", x.done(i, 0), closed[i]);
        }
        due("done(-1, 1)", x.done(-1, 1), 41);
        due("done(-2, 1)", x.done(-2, 1), 172);
        due("done(-1, 0)", x.done(-1, 0), 62);
        due("done(-2, 0)", x.done(-2, 0), 230);
        due("done(-3, 0)", x.done(-3, 0), BAD);
        due("done(6, 1)", x.done(6, 1), BAD);
        due("done(0, 2)", x.done(0, 2), BAD);
        due("done(0, -1)", x.done(0, -1), BAD);
        due("done(-1, 2)", x.done(-1, 2), BAD);
        x.pass(200);
        due("nobody: done(-1, 1)", x.done(-1, 1), 0);
        due("nobody: done(-2, 1)", x.done(-2, 1), 0);
        due("nobody: done(-1, 0)", x.done(-1, 0), 0);
        due("nobody: done(0, 0)", x.done(0, 0), BAD);
    }

    private static void overtaken() {
        promise = 14;
        SecondTill x = new SecondTill();
        int[] by = {0, 0, 48, 48, 0, 0};
        for (int i = 0; i < 6; i++) {
            due("overtaken(" + i + ")", x.overtaken(i), by[i]);
        }
        due("overtaken(-1)", x.overtaken(-1), 4);
        due("overtaken(-2)", x.overtaken(-2), BAD);
        due("overtaken(6)", x.overtaken(6), BAD);
        // 1 runs: there at 1, DONE at 3; 0 is DONE at 3 too.
        SecondTill even = laid("p0,3,1;p1,1,1;s1,2;d0;");
        due("as soon is not sooner", even.done(0, 1) - even.done(1, 1), 0);
        due("as soon is not sooner", even.overtaken(-1), 0);
        due("as soon is not sooner", even.overtaken(0), 0);
    }

    private static void best() {
        promise = 15;
        SecondTill x = new SecondTill();
        due("best(0, 0)", x.best(0, 0), 18);
        due("best(0, 1)", x.best(0, 1), 40);
        due("best(1, 0)", x.best(1, 0), 36);
        due("best(1, 1)", x.best(1, 1), 155);
        due("best(-1, 0)", x.best(-1, 0), BAD);
        due("best(2, 0)", x.best(2, 0), BAD);
        due("best(0, -1)", x.best(0, -1), BAD);
        due("best(0, 2)", x.best(0, 2), BAD);
        SecondTill even = laid("p0,5,1;s2,1;d4;");
        due("of several the lowest", even.best(0, 0), 0);
        due("of several the lowest", even.best(1, 0), 0);
        // Sent alone: there at 5, DONE at 10 as well as at the first one.
        due("of several the lowest", even.best(1, 1), 10);
        SecondTill twins = laid("p0,5,9;p0,5,1;p0,5,1;s9,1;d0;");
        // 2 there at 1: 6, 1: 11, 0 there at 27: 32.
        due("even a STAYING one", twins.best(1, 0), 7);
        due("even a STAYING one", twins.best(1, 1), 49);
        x.pass(200);
        due("nobody", x.best(0, 0), 0);
        due("nobody", x.best(1, 1), 0);
    }

    private static void fair() {
        promise = 16;
        SecondTill x = new SecondTill();
        due("fair(0)", x.fair(0), 0);
        due("fair(1)", x.fair(1), 230);
        due("fair(-1)", x.fair(-1), BAD);
        due("fair(2)", x.fair(2), BAD);
        // 0 stays: DONE at 3; 1 is there at 1, DONE at 3: nobody is overtaken; 1 had 4.
        SecondTill even = laid("p0,3,1;p0,1,1;s1,2;d0;");
        due("as soon is fair", even.fair(0), 2);
        due("as soon is fair", even.fair(1), 6);
        // With 1 there: DONE at 2, ahead of 0: not so.
        SecondTill sooner = laid("p0,3,9;p0,1,1;s1,1;d0;");
        due("sooner is not", sooner.best(1, 0), 2);
        due("sooner is not", sooner.fair(0), 0);
        due("sooner is not", sooner.fair(1), 7);
        SecondTill eight = laid("p3,1,1;p3,1,1;p3,1,1;p3,1,1;p3,1,1;p3,1,1;p3,1,1;p3,1,1;s9,1;d0;");
        due("the head across", eight.fair(0), 1);
        due("the head across", eight.fair(1), 261);
        eight.pass(200);
        due("nobody", eight.fair(0), 0);
        due("nobody", eight.fair(1), 0);
    }

    private static void oneRow() {
        promise = 17;
        SecondTill x = new SecondTill();
        // First: 0 till 12, 2 from 12 till 30, 4 from 18..; second: 1 till 12, 3 from 12 till 18, 4 till 39.
        int[] ready = {12, 12, 30, 18, 39, 36};
        for (int i = 0; i < 6; i++) {
            due("oneRow(" + i + ")", x.oneRow(i), ready[i]);
        }
        due("oneRow(-1)", x.oneRow(-1), 39);
        due("oneRow(-2)", x.oneRow(-2), 147);
        due("oneRow(-3)", x.oneRow(-3), BAD);
        due("oneRow(6)", x.oneRow(6), BAD);
        due("the first, if both are", laid("p0,1,1;s9,1;").oneRow(0), 9);
        x.pass(200);
        due("nobody", x.oneRow(-1), 0);
        due("nobody", x.oneRow(-2), 0);
        due("nobody", x.oneRow(0), BAD);
    }

    private static void called() {
        promise = 18;
        SecondTill x = new SecondTill();
        due("called(0, 0)", x.called(0, 0), 44);
        due("called(0, 1)", x.called(0, 1), 175);
        due("called(1, 0)", x.called(1, 0), 59);
        due("called(1, 1)", x.called(1, 1), 217);
        due("called(2, 0)", x.called(2, 0), 41);
        due("called(2, 1)", x.called(2, 1), 172);
        due("called(-1, 0)", x.called(-1, 0), BAD);
        due("called(3, 0)", x.called(3, 0), BAD);
        due("called(0, -1)", x.called(0, -1), BAD);
        due("called(0, 2)", x.called(0, 2), BAD);
        // Five of a THING each, V 1, U 9, D 0: those sent are there at once one behind the other.
        SecondTill five = laid("p0,1,1;p0,1,1;p0,1,1;p0,1,1;p0,1,1;s1,9;d0;");
        // 3 there at 2: 11, 1: 20; 0, 2, 4: 1, 2, 3.
        due("five: every second one", five.called(0, 1), 37);
        // 2 there at 3: 12, 1: 21; 0, 3, 4: 1, 2, 3.
        due("five: the half at the head", five.called(1, 1), 39);
        due("five: the half at the head", five.called(1, 0), 21);
        // 4 there at 1: 10, 3: 19; 0, 1, 2: 1, 2, 3.
        due("five: the half at the end", five.called(2, 1), 35);
        due("five: the half at the end", five.called(2, 0), 19);
        SecondTill one = laid("p0,1,1;s1,9;d0;");
        for (int rule = 0; rule < 3; rule++) {
            due("one stays", one.called(rule, 0), 1);
            due("one stays", one.called(rule, 1), 1);
        }
        one.leave(0);
        due("nobody", one.called(2, 0), 0);
        due("nobody", one.called(0, 1), 0);
    }

    private static void open() {
        promise = 19;
        SecondTill x = new SecondTill();
        due("open(0, 0)", x.open(0, 0), 0);
        due("open(0, 1)", x.open(0, 1), 155);
        due("open(20, 0)", x.open(20, 0), 30);
        due("open(20, 1)", x.open(20, 1), 215);
        due("open(-1, 0)", x.open(-1, 0), BAD);
        due("open(21, 0)", x.open(21, 0), BAD);
        due("open(0, -1)", x.open(0, -1), BAD);
        due("open(0, 2)", x.open(0, 2), BAD);
        persons(x, "open changes nothing", AT_FIRST);
        // 0 is gone behind 2 seconds; then 1 is alone: his 4 seconds are as many as ever.
        SecondTill two = laid("p0,1,1;p0,2,1;s2,9;d20;");
        due("the far TILL is no use: of several the first", two.open(0, 0), 0);
        due("the far TILL is no use", two.open(0, 1), 8);
        due("c alone counts, but what is begun is lost", two.open(1, 0), 30);
        due("c alone counts", two.open(1, 1), 8);
        // V 9: 9 seconds for a thing, so that at 30 three are through, and 3 seconds are lost.
        SecondTill lost = laid("p0,20,1;s9,9;d20;");
        due("seconds lost", lost.open(0, 0), 0);
        due("seconds lost", lost.open(1, 0), 27);
        due("seconds lost", lost.open(1, 1), 183);
        due("seconds lost, at c 2 for 1", lost.open(2, 0), 30);
        due("seconds lost, at c 2 for 1", lost.open(2, 1), 183);
        x.pass(200);
        due("nobody", x.open(0, 0), 0);
        due("nobody", x.open(5, 0), 30);
        due("nobody", x.open(5, 1), 0);
    }

    private static void tape() {
        promise = 20;
        SecondTill x = new SecondTill();
        due("tape(-1, 0)", x.tape(-1, 0), BAD);
        due("tape(6, 0)", x.tape(6, 0), BAD);
        due("tape(0, -1)", x.tape(0, -1), BAD);
        due("tape(0, 2)", x.tape(0, 2), BAD);
        for (int k = 1; k <= 8; k++) {
            due("tape(5, " + k % 2 + ")", x.tape(5, k % 2), k);
        }
        due("tape(5, 0), full", x.tape(5, 0), FULL);
        due("tape(6, 0), full and bad", x.tape(6, 0), BAD);
        due("count(4)", x.count(4), 8);
        due("nothing to undo", x.count(5), 0);
        promise = 21;
        due("forget()", x.forget(), 8);
        due("forget() again", x.forget(), 0);
        due("count(4)", x.count(4), 0);
        promise = 20;
        due("tape(5, 0)", x.tape(5, 0), 1);
    }

    private static void kinds() {
        promise = 22;
        SecondTill x = new SecondTill();
        due("an empty tape", x.kinds(1), 15);
        due("kinds(-1)", x.kinds(-1), BAD);
        due("kinds(6)", x.kinds(6), BAD);
        x.tape(3, 1);
        due("kinds(3)", x.kinds(3), 14);
        due("kinds(0)", x.kinds(0), 15);
        x.tape(4, 1);
        due("of another", x.kinds(3), 14);
        x.tape(3, 0);
        due("not both", x.kinds(3), 0);
        due("not both, of another", x.kinds(0), 0);
        persons(x, "kinds changes nothing", AT_FIRST);
        x.forget();
        x.tape(3, 0);
        due("at the first TILL", x.kinds(3), 1);
        x.slow(9);
        due("the tape stands, and by U 9 he stays but if he runs", x.kinds(3), 13);
        // Of v in goingBack: 1 goes as SHARP and RUNNING, comes back as STAKING.
        SecondTill v = laid("p2,20,2;p3,5,1;p0,3,9;s2,1;d5;");
        v.tape(1, 0);
        due("who goes back is DONE at the first", v.kinds(1), 9);
        v.forget();
        v.tape(1, 1);
        due("who goes back is not DONE there", v.kinds(1), 6);
    }

    private static void beaten() {
        promise = 23;
        SecondTill x = new SecondTill();
        // There at 18, 24, 14, 24, 5, 8: 4, 5, 2, 0, 3, 1.
        int[] turns = {3, 5, 2, 4, 0, 1};
        for (int i = 0; i < 6; i++) {
            for (int chance = 0; chance <= 10; chance++) {
                long above = Math.round(Math.pow(10 - chance, turns[i]));
                long below = Math.round(Math.pow(10, turns[i]));
                for (long g = below; g > 1; g--) {
                    if (above % g == 0 && below % g == 0) {
                        above /= g;
                        below /= g;
                        break;
                    }
                }
                due("beaten(" + i + ", " + chance + ", 0)", x.beaten(i, chance, 0), (int) above);
                due("beaten(" + i + ", " + chance + ", 1)", x.beaten(i, chance, 1), (int) below);
            }
        }
        due("beaten(-1, 0, 0)", x.beaten(-1, 0, 0), BAD);
        due("beaten(6, 0, 0)", x.beaten(6, 0, 0), BAD);
        due("beaten(0, -1, 0)", x.beaten(0, -1, 0), BAD);
        due("beaten(0, 11, 0)", x.beaten(0, 11, 0), BAD);
        due("beaten(0, 0, -1)", x.beaten(0, 0, -1), BAD);
        due("beaten(0, 0, 2)", x.beaten(0, 0, 2), BAD);
    }

    private static void learner() {
        promise = 24;
        due("at first", new SecondTill().learner(), 9);
        // V 1: alone 5 and 6. 1 across, there at 1: DONE at 1 and U, less than 6 by U 4.
        SecondTill x = laid("p0,5,9;p0,1,1;s1,9;d0;");
        due("less, not as much", x.learner(), 4);
        due("U is as it was", x.count(2), 9);
        due("none", laid("p0,1,9;s1,1;d20;").learner(), NONE);
        due("none, whatever U is", laid("p0,1,1;s1,1;d0;").learner(), NONE);
        SecondTill nobody = laid("p0,1,1;");
        nobody.leave(0);
        due("nobody", nobody.learner(), NONE);
    }

    private static void day() {
        promise = 25;
        SecondTill x = laid("p0,1,1;s2,2;");
        // z 0, time 0: q 1, DRAW 1: KIND 1, 1 THING, 0 seconds.
        due("day(0, 1, 0)", x.day(0, 1, 0), 0);
        due("day(0, 1, 1)", x.day(0, 1, 1), 2);
        // z 1: q 7920, DRAW 62726400 modulo 65521 = 22803: KIND 3, 4 THINGS, 5 seconds: 2 THINGS through.
        due("day(1, 1, 0)", x.day(1, 1, 0), 1);
        due("day(1, 1, 1)", x.day(1, 1, 1), 1);
        due("a day changes nothing", x.count(0), 1);
        due("a day changes nothing", x.count(5), 0);
        due("day(-1, 1, 0)", x.day(-1, 1, 0), BAD);
        due("day(10000, 1, 0)", x.day(10000, 1, 0), BAD);
        due("day(0, 0, 0)", x.day(0, 0, 0), BAD);
        due("day(0, 31, 0)", x.day(0, 31, 0), BAD);
        due("day(0, 1, -1)", x.day(0, 1, -1), BAD);
        due("day(0, 1, 2)", x.day(0, 1, 2), BAD);
        for (int z = 0; z <= 9999; z += 1111) {
            int[] want = dayOf(z, 30, 2, 1);
            due("day(" + z + ", 30, 0)", x.day(z, 30, 0), want[0]);
            due("day(" + z + ", 30, 1)", x.day(z, 30, 1), want[1]);
        }
        SecondTill slowest = laid("p0,20,1;p0,20,1;p0,20,1;p0,20,1;p0,20,1;p0,20,1;p0,20,1;p0,20,1;s9,1;");
        due("8 at most", slowest.day(9999, 3, 1), 8);
    }

    /** THE ROW as one number a PERSON. */
    private static int[] dayOf(int z, int times, int v, int firstThings) {
        java.util.ArrayDeque<Integer> row = new java.util.ArrayDeque<>();
        row.add(firstThings);
        int gone = 0;
        for (int time = 0; time < times; time++) {
            long q = 7919L * z + 6151L * time + 1;
            int draw = (int) ((q * q) % 65521);
            if (row.size() < 8) {
                row.add((draw / 4) % 9 + 1);
            }
            for (int things = ((draw / 16) % 20) / v; things > 0 && !row.isEmpty(); things--) {
                int left = row.poll() - 1;
                if (left > 0) {
                    row.addFirst(left);
                } else {
                    gone++;
                }
            }
        }
        return new int[] {gone, row.size()};
    }

    private static void keepAndBack() {
        promise = 26;
        SecondTill x = new SecondTill();
        x.tape(0, 0);
        x.slow(5);
        due("keep()", x.keep(), 1);
        due("keep leaves the tape", x.count(4), 1);
        due("keep leaves what can be undone", x.count(5), 1);
        x.leave(0);
        x.slow(8);
        due("keep()", x.keep(), 2);
        due("keep(), full", x.keep(), FULL);
        due("count(6)", x.count(6), 2);
        promise = 27;
        x.pass(200);
        x.slow(1);
        due("back()", x.back(), 1);
        due("U", x.count(2), 8);
        due("PERSONS", x.count(0), 5);
        due("nothing is undone then", x.count(5), 0);
        due("nothing is undone then", x.undo(), NO);
        x.tape(0, 0);
        x.slow(2);
        due("back()", x.back(), 0);
        due("the tape", x.count(4), 0);
        due("U", x.count(2), 5);
        persons(x, "as kept", AT_FIRST);
        x.slow(6);
        x.tape(0, 0);
        due("back()", x.back(), NO);
        counts(x, "nothing changes then", 6, 2, 6, 3, 1, 1, 0, 0);
        promise = 26;
        due("keep() again", x.keep(), 1);
        x.undo();
        due("undo leaves what is kept", x.count(6), 1);
    }

    private static void count() {
        promise = 28;
        SecondTill x = laid("p0,1,1;p0,2,2;s3,4;d5;");
        x.slow(6);
        x.slow(7);
        x.slow(8);
        x.tape(0, 0);
        x.tape(1, 1);
        x.keep();
        counts(x, "each", 2, 3, 8, 5, 2, 3, 1, 22);
        due("count(-1)", x.count(-1), BAD);
        due("count(8)", x.count(8), BAD);
    }
}
