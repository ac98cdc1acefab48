import java.io.IOException;
import java.nio.file.Files;
import java.nio.file.Path;
import java.util.ArrayList;
import java.util.Arrays;
import java.util.List;
import java.util.Set;
import java.util.TreeSet;
import java.util.regex.Matcher;
import java.util.regex.Pattern;

/**
 * Each sentence of the document that names a boundary case has a test of its own here, which names the
 * promise and quotes the sentence. A test is a run of calls on a new object, such as
 * "come(0,1,1)=7 come(4,1,1)=BAD": a call without an answer only must not be refused, "8*" is eight times.
 */
public final class BoundaryTests {
    private static final Path DOCUMENT = Path.of("../shared/DOC.md");
    private static final int BAD = -1, NO = -2, FULL = -3, NONE = -4;
    private static final int MOST_CALLS = 512;
    private static final Pattern CALL = Pattern.compile("(?:(\\d+)\\*)?(\\w+)\\(([-\\d,]*)\\)(?:=(-?\\w+))?");

    private static String document = "";
    private static int wrong = 0;
    private static int tests = 0;
    private static int asked = 0;
    private static final Set<String> quoted = new TreeSet<>();
    /** Such as "2 write BAD": in a test of promise 2 a call of write was due to answer BAD. */
    private static final Set<String> refused = new TreeSet<>();

    public static void main(String[] args) throws IOException {
        if (Files.isReadable(DOCUMENT)) {
            document = onOneLine(Files.readString(DOCUMENT));
        } else {
            System.out.println(DOCUMENT + " is not here: what is quoted is not looked up");
        }
        newObject();
        write();
        wipe();
        faultOfForm();
        faultOfNumbers();
        faultPlace();
        lay();
        person();
        come();
        leave();
        pass();
        slow();
        undo();
        goesWho();
        goesByKind();
        goesBack();
        goesOrder();
        done();
        overtaken();
        best();
        fair();
        oneRow();
        called();
        open();
        tape();
        forget();
        kinds();
        beaten();
        learner();
        day();
        keep();
        back();
        count();
        nothingChanges();
        allCalls();
        if (!document.isEmpty()) {
            everyBoundaryIsQuoted();
            everyRefusalIsTested();
        }
        System.out.println(tests + " tests, " + asked + " calls, " + wrong + " not as due");
        if (wrong != 0) {
            System.exit(1);
        }
    }

    // ---- how a test is told

    private static String onOneLine(String text) {
        return text.replaceAll("\\s+", " ");
    }

    private static void fail(int promise, String sentence, String what) {
        wrong++;
        System.out.println("promise " + promise + ", \"" + sentence + "\": " + what);
    }

    private static void quote(int promise, String sentence) {
        tests++;
        quoted.add(sentence);
        if (!document.isEmpty() && !document.contains(sentence)) {
            fail(promise, sentence, "the document does not say so");
        }
    }

    /** A test on a new object, with a text laid if there is one. */
    private static void holds(int promise, String sentence, String text, String... runs) {
        quote(promise, sentence);
        SecondTill x = text.isEmpty() ? new SecondTill() : laid(promise, sentence, text);
        int calls = text.isEmpty() ? 0 : text.length() + 1;
        for (String run : runs) {
            calls += ask(promise, sentence, x, run);
        }
        if (calls > MOST_CALLS) {
            fail(promise, sentence, calls + " calls are too many");
        }
    }

    private static SecondTill laid(int promise, String sentence, String text) {
        SecondTill x = new SecondTill();
        write(x, text);
        if (x.lay() < 1) {
            fail(promise, sentence, "not laid: " + text);
        }
        return x;
    }

    private static void write(SecondTill x, String text) {
        for (char letter : text.toCharArray()) {
            x.write(letter);
        }
    }

    /** How many calls it was. */
    private static int ask(int promise, String sentence, SecondTill x, String run) {
        int calls = 0;
        for (String one : run.trim().split("\\s+")) {
            Matcher call = CALL.matcher(one);
            if (!call.matches()) {
                throw new IllegalArgumentException(one);
            }
            int times = call.group(1) == null ? 1 : Integer.parseInt(call.group(1));
            for (int k = 0; k < times; k++) {
                int got = answer(x, call.group(2), numbers(call.group(3)));
                judge(promise, sentence, call, got);
                calls++;
                asked++;
            }
        }
        return calls;
    }

    private static void judge(int promise, String sentence, Matcher call, int got) {
        String due = call.group(4);
        if (due == null ? got < 0 : got != number(due)) {
            fail(promise, sentence, call.group() + " answered " + got);
        }
        if (due != null && Character.isLetter(due.charAt(0))) {
            refused.add(promise + " " + call.group(2) + " " + due);
        }
    }

    private static int[] numbers(String told) {
        return told.isEmpty() ? new int[0] : Arrays.stream(told.split(",")).mapToInt(Integer::parseInt).toArray();
    }

    private static int number(String due) {
        switch (due) {
            case "BAD": return BAD;
            case "NO": return NO;
            case "FULL": return FULL;
            case "NONE": return NONE;
            default: return Integer.parseInt(due);
        }
    }

    private static int answer(SecondTill x, String name, int[] n) {
        switch (name) {
            case "write": return x.write(n[0]);
            case "wipe": return x.wipe();
            case "fault": return x.fault();
            case "lay": return x.lay();
            case "person": return x.person(n[0], n[1]);
            case "come": return x.come(n[0], n[1], n[2]);
            case "leave": return x.leave(n[0]);
            case "pass": return x.pass(n[0]);
            case "slow": return x.slow(n[0]);
            case "undo": return x.undo();
            case "goes": return x.goes(n[0]);
            case "done": return x.done(n[0], n[1]);
            case "overtaken": return x.overtaken(n[0]);
            case "best": return x.best(n[0], n[1]);
            case "fair": return x.fair(n[0]);
            case "oneRow": return x.oneRow(n[0]);
            case "called": return x.called(n[0], n[1]);
            case "open": return x.open(n[0], n[1]);
            case "tape": return x.tape(n[0], n[1]);
            case "forget": return x.forget();
            case "kinds": return x.kinds(n[0]);
            case "beaten": return x.beaten(n[0], n[1], n[2]);
            case "learner": return x.learner();
            case "day": return x.day(n[0], n[1], n[2]);
            case "keep": return x.keep();
            case "back": return x.back();
            case "count": return x.count(n[0]);
            default: throw new IllegalArgumentException(name);
        }
    }

    /** Each text for itself has its FAULT at that place, also behind an ITEM that is so. */
    private static void faults(String sentence, int place, String... texts) {
        quote(4, sentence);
        for (String text : texts) {
            for (String ahead : new String[] {"", "d1;"}) {
                SecondTill x = new SecondTill();
                write(x, ahead + text);
                int due = place == NONE ? NONE : place + ahead.length();
                int got = x.fault();
                asked++;
                if (got != due) {
                    fail(4, sentence, "fault of " + ahead + text + " is " + got + ", not " + due);
                }
                boolean lays = due == NONE && text.contains("p");
                if (x.lay() < 0 == lays) {
                    fail(4, sentence, ahead + text + (lays ? " is not laid" : " is laid"));
                }
            }
        }
    }

    private static String times(int number, String text) {
        return text.repeat(number);
    }

    // ---- the promises

    private static void newObject() {
        String first = "at first p0,6,2;p1,4,3;p2,9,2;p3,2,4;p1,7,1;p2,3,2;s2,3;d3;";
        holds(1, first, "", "count(0)=6 person(0,0)=0 person(0,1)=6 person(0,2)=2 person(1,0)=1 person(1,1)=4",
            "person(1,2)=3 person(2,0)=2 person(2,1)=9 person(2,2)=2 person(3,0)=3 person(3,1)=2 person(3,2)=4",
            "person(4,0)=1 person(4,1)=7 person(4,2)=1 person(5,0)=2 person(5,1)=3 person(5,2)=2 person(6,0)=BAD",
            "count(1)=2 count(2)=3 count(3)=3");
        holds(1, "`SecondTill()`: As told.", "", "count(4)=0 count(5)=0 count(6)=0 count(7)=0 forget()=0 undo()=NO",
            "back()=NO wipe()=0 fault()=NONE lay()=NO count(0)=6");
    }

    private static void write() {
        String range = "A letter (32 to 126, as in ASCII) comes behind THE TEXT: how long it is. BAD; FULL.";
        holds(2, range, "", "write(31)=BAD write(32)=1");
        holds(2, range, "", "write(127)=BAD write(126)=1 write(33)=2 write(125)=3");
        holds(2, range, "", "write(0)=BAD write(-1)=BAD write(-2147483648)=BAD write(2147483647)=BAD write(65644)=BAD",
            "write(65648)=BAD write(-65424)=BAD count(7)=0 write(112)=1");
        String most = "A TEXT is letters (200 at most)";
        holds(2, most, "", "199*write(112) count(7)=199 write(112)=200 write(112)=FULL write(126)=FULL write(32)=FULL",
            "count(7)=200 wipe()=200 write(112)=1");
        holds(2, "FULL. Of several the first; nothing changes then.", "", "200*write(112)",
            "write(31)=BAD write(127)=BAD write(112)=FULL count(7)=200");
        // The last of the 200 letters is the one that makes it so; a 201st would be a FAULT.
        SecondTill x = new SecondTill();
        write(x, times(64, "d1;") + "p0,10,1");
        quote(2, most);
        ask(2, most, x, "count(7)=199 fault()=192 lay()=NO write(59)=200 fault()=NONE write(59)=FULL fault()=NONE lay()=1");
    }

    private static void wipe() {
        String empty = "THE TEXT is empty: how long it was.";
        holds(3, empty, "", "wipe()=0 wipe()=0 write(120)=1 wipe()=1 count(7)=0 fault()=NONE lay()=NO write(120)=1");
        holds(3, empty, "", "200*write(120) wipe()=200 wipe()=0 200*write(120) write(120)=FULL count(7)=200");
        holds(3, empty, "p0,9,1;p0,9,1;s1,1;d1;", "slow(3) tape(0,0) keep() wipe()=22 count(0)=2 count(1)=1 count(2)=3",
            "count(3)=1 count(4)=1 count(5)=1 count(6)=1 count(7)=0 lay()=NO");
    }

    private static void faultOfForm() {
        String figures = "then numbers (one or two figures)";
        faults(figures, NONE, "d0;", "d00;", "d9;", "d09;", "d20;", "s1,9;", "s01,09;", "p0,1,1;", "p00,01,01;", "p3,20,09;");
        faults(figures, 0, "d;", "d000;", "d001;", "d020;", "s,1;", "s1,;", "s001,1;", "s1,001;", "p,1,1;", "p0,,1;",
            "p0,1,;", "p000,1,1;", "p0,001,1;", "p0,020,1;", "p0,1,001;");
        faults(figures, 0, "d/;", "d:;", "d1/;", "d1:;", "d-1;", "d+1;", "d 1;", "d1 ;", "dx;", "s1,x;", "p0,1,-1;");
        String parted = "parted by , and a ; behind the last one";
        faults(parted, 0, "s1;1;", "s1 1;", "s1.1;", "s1,,1;", "s,1,1;", "p0;1,1;", "p0,1;1;", "p0.1,1;", "p0,1.1;", "p0-1-1;");
        faults(parted, 0, "d1", "d1,", "d1:", "d1.", "d20", "s1,1", "s1,1,", "s1,1:", "p0,1,1", "p0,1,1,", "p0,1,1.",
            "p0,20,1", "d1d1;", "s1,1p0,1,1;");
        faults(parted, 0, "d", "s", "s1", "s1,", "p", "p0", "p0,", "p0,1", "p0,1,");
        String item = "ITEMS one behind the other, each a letter";
        faults(item, 0, "d1,1;", "s1;", "s1,1,1;", "p0;", "p0,1;", "p0,1,1,1;");
        faults(item, 0, "D1;", "S1,1;", "P0,1,1;", "c1;", "e1;", "o0,1,1;", "q0,1,1;", "r1,1;", "t1,1;", "1;", ";", ",", " ",
            " d1;", "dd1;", "~");
        faults(item, 3, "d1; d1;", "d1;;", "d1;,d1;", "d1;1;", "d1;,", "d1; ");
    }

    private static void faultOfNumbers() {
        String kind = "a PERSON of KIND K (0 STAYING, 1 RUNNING, 2 SHARP, 3 STAKING)";
        faults(kind, NONE, "p0,1,1;", "p1,1,1;", "p2,1,1;", "p3,1,1;", "p03,1,1;");
        faults(kind, 0, "p4,1,1;", "p9,1,1;", "p10,1,1;", "p04,1,1;", "p99,1,1;");
        String things = "with W (1 to 20) THINGS";
        faults(things, NONE, "p0,1,1;", "p0,20,1;", "p0,01,1;");
        faults(things, 0, "p0,0,1;", "p0,00,1;", "p0,21,1;", "p0,99,1;");
        String feet = "who takes F (1 to 9) seconds a STEP";
        faults(feet, NONE, "p0,1,1;", "p0,1,9;", "p0,1,09;");
        faults(feet, 0, "p0,1,0;", "p0,1,00;", "p0,1,10;", "p0,1,99;");
        String eight = "8 at most, 0, 1, .., 0 at the head of THE ROW";
        faults(eight, NONE, times(8, "p0,1,1;"), times(4, "p0,1,1;s1,1;d1;p0,1,1;"), times(8, "p0,1,1;") + "s1,1;d1;");
        faults(eight, 56, times(9, "p0,1,1;"), times(10, "p0,1,1;"), times(8, "p0,1,1;") + "p4,1,1;");
        faults(eight, 64, times(8, "p0,1,1;") + "s1,1;d1;p0,1,1;");
        String paces = "sV,U a THING takes V (1 to 9) seconds at the first TILL, U (1 to 9) at the second one";
        faults(paces, NONE, "s1,1;", "s9,1;", "s1,9;", "s9,9;", "s2,2;s3,3;");
        faults(paces, 0, "s0,1;", "s00,1;", "s10,1;", "s99,1;", "s1,0;", "s1,00;", "s1,10;", "s1,99;", "s0,1;s1,1;");
        String steps = "dD the second TILL is D (0 to 20) STEPS from the end of THE ROW";
        faults(steps, NONE, "d0;", "d20;", "d00;", "d1;d2;");
        faults(steps, 0, "d21;", "d30;", "d99;", "d21;d20;");
    }

    private static void faultPlace() {
        String place = "FAULT: the place of the first letter of the first ITEM that is not so.";
        faults(place, 0, "x", "x1;y1;", "p0,1,0;d21;");
        faults(place, 7, "p0,1,1;x", "p0,1,1;p0,1,", "p0,1,1;s1,10;d21;", "p0,1,1;d21;p0,1,1;");
        faults(place, 11, "d20;p0,1,1;d1x");
        faults(place, 13, "p3,20,9;s1,1;p0,1,");
        holds(4, place, times(64, "d1;") + "p0,1,1;", "fault()=NONE write(112)=200 fault()=199");
        String none = "`int fault()`: FAULT. NONE.";
        holds(4, none, "", "fault()=NONE");
        holds(4, none, "", "write(100)=1 fault()=0 write(49)=2 fault()=0 write(59)=3 fault()=NONE write(59)=4 fault()=3",
            "wipe()=4 fault()=NONE");
        // The end of THE TEXT as it is now counts, not letters that were there once.
        holds(4, none, "", "write(100) write(49) write(59) write(100) write(49) write(59) wipe()=6 write(100) write(49)",
            "fault()=0 count(0)=6");
        // Nobody is no FAULT.
        faults("FAULT. NONE.", NONE, "s1,1;", "d1;", "s1,1;d1;");
    }

    private static void lay() {
        String least = "LAID is a TEXT without FAULT, of a PERSON at least (NO else;";
        holds(5, least, "", "lay()=NO count(0)=6 count(2)=3");
        holds(5, least, "", "write(100) write(49) write(59) lay()=NO count(0)=6 count(3)=3");
        holds(5, least, "", "write(112) write(48) write(44) write(49) write(44) write(49) lay()=NO count(0)=6",
            "write(59) lay()=1 count(0)=1 write(120) lay()=NO count(0)=1");
        holds(5, least, times(8, "p0,1,1;"), "lay()=8 count(0)=8 write(112) write(48) write(44) write(49) write(44) write(49)",
            "write(59) lay()=NO count(0)=8");
        holds(5, "0 at the head of THE ROW, each behind the one told ahead", "p3,1,9;d1;p2,20,8;s1,1;p1,3,7;",
            "count(0)=3 person(0,0)=3 person(0,1)=1 person(0,2)=9 person(1,0)=2 person(1,1)=20 person(1,2)=8",
            "person(2,0)=1 person(2,1)=3 person(2,2)=7 person(3,0)=BAD");
        String paces = "U (1 to 9) at the second one (2, 2 without; the last one)";
        holds(5, paces, "p0,1,1;", "count(1)=2 count(2)=2");
        holds(5, paces, "p0,1,1;s9,1;", "count(1)=9 count(2)=1");
        holds(5, paces, "s1,9;p0,1,1;s3,4;s5,6;", "count(1)=5 count(2)=6");
        String steps = "D (0 to 20) STEPS from the end of THE ROW (2 without; the last one)";
        holds(5, steps, "p0,1,1;", "count(3)=2");
        holds(5, steps, "p0,1,1;d0;", "count(3)=0");
        holds(5, steps, "d20;p0,1,1;d0;d20;", "count(3)=20");
        // Without means 2, not as it was.
        holds(5, steps, "p0,1,1;s7,8;d9;", "wipe() write(112) write(49) write(44) write(49) write(44) write(49) write(59)",
            "lay()=1 count(1)=2 count(2)=2 count(3)=2");
        String nothing = "LAID: how many PERSONS; nothing on the TAPE, UNDONE, KEPT. NO.";
        holds(5, nothing, "p0,9,1;p0,9,1;", "keep() leave(0) keep() slow(9) come(0,1,1) 8*tape(1,0)",
            "lay()=2 count(0)=2 count(2)=2 count(4)=0 count(5)=0 count(6)=0 count(7)=14 forget()=0 undo()=NO back()=NO",
            "count(0)=2 keep()=1 keep()=2 keep()=FULL");
        holds(5, nothing, "p0,9,1;p0,9,1;", "keep() slow(9) tape(1,0) write(120) lay()=NO count(2)=9 count(4)=1 count(5)=1",
            "count(6)=1 count(7)=15 undo()=0 count(2)=2 back()=0");
    }

    private static void person() {
        String steps = "who is k-th from the head (0: the head) of n is D and n and less k STEPS from the second TILL "
            + "(the last one D and 1)";
        holds(6, steps, "p0,1,7;d0;", "person(0,3)=7");
        holds(6, steps, "p0,1,9;p0,1,1;p0,1,1;p0,1,1;p0,1,1;p0,1,1;p0,1,1;p0,1,9;d20;",
            "person(0,3)=252 person(1,3)=27 person(6,3)=22 person(7,3)=189");
        holds(6, steps, "p0,1,2;p0,1,3;d4;", "person(0,3)=12 person(1,3)=15 come(0,1,1) person(0,3)=14 person(1,3)=18",
            "person(2,3)=5 leave(0) person(0,3)=18 person(1,3)=5");
        holds(6, steps, "p0,1,2;p0,1,3;s1,1;d4;", "pass(1)=1 person(0,3)=15");
        String what = "Of a PERSON: KIND (what = 0), THINGS (1), F (2), seconds he would take to be there (3). BAD.";
        holds(6, what, "p3,20,9;d0;", "person(0,-1)=BAD person(0,0)=3 person(0,1)=20 person(0,2)=9 person(0,3)=9",
            "person(0,4)=BAD person(0,2147483647)=BAD person(0,-2147483648)=BAD");
        String there = "BAD: a number is none that is told (PERSONS: such as there are in THE ROW).";
        holds(6, there, "", "person(-1,0)=BAD person(5,0)=2 person(6,0)=BAD person(7,1)=BAD person(8,2)=BAD",
            "person(-2147483648,3)=BAD person(2147483647,3)=BAD leave(5) person(5,0)=BAD person(4,0)=1 come(3,1,1)",
            "person(5,0)=3 pass(200) person(0,0)=BAD");
        holds(6, "Numbers are places in THE ROW as it is now.", "p0,1,1;p1,2,2;p2,3,3;s1,1;",
            "leave(1) person(1,0)=2 person(1,1)=3 person(1,2)=3 pass(1) person(0,0)=2 person(1,0)=BAD");
    }

    private static void come() {
        String bad = "One comes: how many there are. BAD; FULL.";
        holds(7, bad, "", "come(-1,1,1)=BAD come(4,1,1)=BAD come(0,1,1)=7 come(3,1,1)=8 person(6,0)=0 person(7,0)=3");
        holds(7, bad, "", "come(0,0,1)=BAD come(0,21,1)=BAD come(0,1,1)=7 come(0,20,1)=8 person(6,1)=1 person(7,1)=20");
        holds(7, bad, "", "come(0,1,0)=BAD come(0,1,10)=BAD come(0,1,1)=7 come(0,1,9)=8 person(6,2)=1 person(7,2)=9");
        holds(7, bad, "", "come(2147483647,1,1)=BAD come(-2147483648,1,1)=BAD come(0,2147483647,1)=BAD",
            "come(0,-2147483648,1)=BAD come(0,1,2147483647)=BAD come(0,1,-2147483648)=BAD count(0)=6 count(5)=0");
        String end = "A PERSON comes to the end of THE ROW (8 at most)";
        holds(7, end, "", "come(3,11,5)=7 person(6,0)=3 person(6,1)=11 person(6,2)=5 person(5,1)=3 come(0,1,1)=8",
            "come(0,1,1)=FULL count(0)=8 leave(0)=7 come(1,2,3)=8 person(7,0)=1 person(7,1)=2 person(7,2)=3");
        holds(7, end, times(8, "p0,1,1;"), "come(0,1,1)=FULL undo()=NO pass(2)=7 come(0,1,1)=8 come(0,1,1)=FULL count(5)=2");
        holds(7, end, "p0,1,1;", "leave(0)=0 come(2,3,4)=1 person(0,0)=2 person(0,1)=3 person(0,2)=4");
        holds(7, "Of several the first; nothing changes then.", times(8, "p0,1,1;"),
            "come(4,1,1)=BAD come(0,0,1)=BAD come(0,1,10)=BAD come(0,1,1)=FULL count(0)=8");
    }

    private static void leave() {
        String bad = "One leaves: how many are left. BAD.";
        holds(8, bad, "", "leave(-1)=BAD leave(6)=BAD leave(7)=BAD leave(2147483647)=BAD leave(-2147483648)=BAD count(0)=6",
            "count(5)=0 leave(5)=5 leave(5)=BAD leave(0)=4");
        holds(8, bad, "p2,5,5;", "leave(1)=BAD leave(0)=0 leave(0)=BAD leave(-1)=BAD count(0)=0");
        holds(8, bad, "p0,1,1;p0,2,1;p0,3,1;p0,4,1;p0,5,1;p0,6,1;p0,7,1;p0,8,1;", "leave(8)=BAD leave(7)=7 person(6,1)=7",
            "leave(0)=6 person(0,1)=2 person(5,1)=7 leave(3)=5 person(3,1)=6 person(2,1)=4 person(4,1)=7 person(5,1)=BAD");
    }

    private static void pass() {
        String range = "t (1 to 200) seconds go by: how many are left. BAD.";
        holds(9, range, "", "pass(0)=BAD pass(-1)=BAD pass(201)=BAD pass(2147483647)=BAD pass(-2147483648)=BAD count(5)=0",
            "person(0,1)=6 pass(1)=6 pass(200)=0");
        holds(9, range, times(8, "p0,20,1;") + "s1,1;", "pass(200)=0");
        holds(9, range, times(8, "p0,20,1;") + "s2,1;", "pass(200)=3 person(0,1)=20 pass(199)=0");
        holds(9, range, times(8, "p0,20,1;") + "s9,1;", "pass(200)=7 person(0,1)=18");
        String cut = "t by V, cut, THINGS are through, those of who is at the head first (one that is begun is not)";
        holds(9, cut, "p0,3,1;p0,2,1;s3,1;", "pass(2)=2 person(0,1)=3 pass(2)=2 person(0,1)=3 pass(3)=2 person(0,1)=2",
            "pass(5)=2 person(0,1)=1 person(1,1)=2");
        holds(9, cut, "p0,3,1;p0,2,1;s3,1;", "pass(8)=2 person(0,1)=1 person(1,1)=2");
        holds(9, cut, "p0,3,1;p0,2,1;s3,1;", "pass(12)=1 person(0,1)=1");
        String gone = "who has none left is DONE and gone";
        holds(9, gone, "p0,3,1;p1,2,5;s3,1;", "pass(9)=1 person(0,0)=1 person(0,1)=2 person(0,2)=5 person(1,0)=BAD");
        holds(9, gone, "p0,3,1;p1,2,5;s3,1;", "pass(14)=1 person(0,1)=1 pass(2)=1 pass(3)=0 pass(1)=0 pass(200)=0 count(0)=0");
        holds(9, gone, "p0,3,1;p1,2,5;s3,1;", "pass(15)=0");
        holds(9, gone, times(8, "p0,1,1;") + "s1,1;", "pass(7)=1 pass(1)=0");
        holds(9, "t seconds go by at the first TILL alone", "p1,9,9;p1,9,1;p2,9,1;s1,1;d0;",
            "pass(9)=2 person(0,1)=9 person(1,1)=9 count(1)=1 count(2)=1 count(3)=0");
    }

    private static void slow() {
        String range = "U is u (1 to 9): what it was. BAD.";
        holds(10, range, "", "slow(0)=BAD slow(10)=BAD slow(-1)=BAD slow(2147483647)=BAD slow(-2147483648)=BAD count(2)=3",
            "count(5)=0 slow(1)=3 count(2)=1 slow(9)=1 count(2)=9 slow(9)=9 count(2)=9 count(1)=2");
        holds(10, range, "p0,1,1;", "leave(0) slow(9)=2 slow(1)=9 count(2)=1");
    }

    private static void undo() {
        String latest = "UNDONE is the latest of these (the last 8 can be).";
        holds(11, latest, "", "9*slow(9) count(5)=8 undo()=7 count(2)=9 7*undo() count(5)=0 count(2)=9 undo()=NO count(2)=9");
        holds(11, latest, "", "8*slow(9) count(5)=8 8*undo() count(2)=3 undo()=NO");
        holds(11, latest, "", "slow(1) slow(2) slow(3) slow(4) slow(5) slow(6) slow(7) slow(8) slow(9) slow(5)",
            "undo()=7 count(2)=9 undo()=6 count(2)=8 undo()=5 count(2)=7 undo()=4 count(2)=6 undo()=3 count(2)=5",
            "undo()=2 count(2)=4 undo()=1 count(2)=3 undo()=0 count(2)=2 undo()=NO count(2)=2");
        holds(11, latest, "", "8*slow(9) undo()=7 slow(1) count(5)=8 slow(2) count(5)=8 undo()=7 count(2)=1");
        // An act by which nothing changes is one all the same.
        holds(11, latest, "p0,1,1;s2,2;", "pass(1)=1 slow(2)=2 leave(0) pass(200)=0 count(5)=4 undo()=3 count(0)=0 undo()=2",
            "count(0)=1 undo()=1 undo()=0 undo()=NO");
        String more = "UNDONE: how many more can be. NO.";
        holds(11, more, "", "undo()=NO slow(1) undo()=0 undo()=NO count(2)=3");
        holds(11, more, "", "come(4,1,1)=BAD leave(6)=BAD pass(0)=BAD slow(0)=BAD undo()=NO");
        holds(11, more, times(8, "p0,1,1;"), "come(0,1,1)=FULL undo()=NO write(120) tape(0,0) forget() keep() wipe() undo()=NO");
        holds(11, more, "p0,5,3;p1,6,4;s1,1;", "come(2,7,5) undo()=0 count(0)=2 person(1,1)=6 leave(0) undo()=0 count(0)=2",
            "person(0,0)=0 person(0,1)=5 person(0,2)=3 person(1,0)=1 pass(4) undo()=0 person(0,1)=5 pass(200) undo()=0",
            "count(0)=2 person(1,2)=4 slow(9) undo()=0 count(2)=1 undo()=NO");
        // What is UNDONE was no act itself: it can't be UNDONE again.
        holds(11, more, "", "slow(1) slow(2) undo()=1 count(2)=1 undo()=0 count(2)=3 undo()=NO");
        holds(11, "nothing is UNDONE then", "", "keep() slow(1) slow(2) back() undo()=NO count(2)=3 slow(4) undo()=0 count(2)=3");
    }

    private static void goesWho() {
        String told = "WHO GOES: bits (k = -1), who is the k-th that is DONE there (NONE: there are not so many). BAD.";
        holds(12, told, "", "goes(-2)=BAD goes(-1)=56 goes(0)=4 goes(2)=3 goes(3)=NONE goes(7)=NONE goes(8)=BAD",
            "goes(2147483647)=BAD goes(-2147483648)=BAD");
        // All eight: the head is there as the last one, at 8, served from 141, DONE at 161, not at 180.
        holds(12, told, times(8, "p2,20,1;") + "s9,1;d0;", "goes(-1)=255 goes(0)=7 goes(6)=1 goes(7)=0 goes(8)=BAD");
        holds(12, told, "p1,1,1;", "goes(-1)=0 goes(0)=NONE leave(0) goes(-1)=0 goes(0)=NONE goes(7)=NONE goes(8)=BAD");
        String ties = "by how many seconds they would take to be there (of several the last in THE ROW first)";
        // Both are there at 6; the last one goes, and of the other's only one stays ahead.
        holds(12, ties, "p0,1,1;p1,9,2;p1,9,3;s1,9;d1;", "person(1,3)=6 person(2,3)=6 goes(-1)=4");
        holds(12, ties, "p0,20,1;p2,5,2;p2,5,3;s2,2;d1;", "goes(0)=2 goes(1)=1 done(2,1)=16 done(1,1)=26");
        // As above, but the one ahead is a second sooner there.
        holds(12, ties, "p0,1,1;p1,9,1;p1,9,3;s1,9;d1;", "person(1,3)=3 person(2,3)=6 goes(-1)=2");
        String others = "each knows what those ahead of him have done, and takes it that all others stay";
        // 1 is DONE there at 11, not at 50; then 0 is, at 34, not at 40: in THE ROW 1 would be DONE at 10.
        holds(12, others, "p2,20,2;p2,5,1;s2,1;d5;", "goes(-1)=3 done(1,1)=11 done(0,1)=34");
        // 1 goes; 2 would be DONE at 6 in THE ROW without him, not at 15; there at 14.
        holds(12, others, "p0,4,9;p1,9,1;p2,2,2;s1,1;d1;", "person(1,3)=3 person(2,3)=4 goes(-1)=2 done(2,1)=6");
    }

    private static void goesByKind() {
        holds(12, "a STAYING one stays", "p0,20,1;p0,20,1;p0,20,1;s9,1;d0;", "goes(-1)=0");
        String running = "a RUNNING one goes, if those who stay ahead of him in THE ROW (as it is by then) are more than "
            + "those who went so far";
        holds(12, running, "p1,20,1;s9,1;d0;", "goes(-1)=0");
        holds(12, running, "p1,20,1;p0,20,9;p0,20,9;s9,1;d0;", "goes(-1)=0");
        holds(12, running, "p0,1,9;p1,20,9;s1,9;d20;", "goes(-1)=2");
        // One stays ahead, one went.
        holds(12, running, "p0,1,1;p1,9,2;p1,9,1;s1,9;", "goes(-1)=4");
        // Two stay ahead, one went.
        holds(12, running, "p0,1,1;p0,1,1;p1,9,2;p1,9,1;s1,9;", "goes(-1)=12");
        // Two are ahead of 2, but 1 of them went: one stays.
        holds(12, running, "p0,1,9;p1,1,1;p1,1,9;d0;", "goes(-1)=2");
        // Three are ahead of 3, 1 of them went: two stay.
        holds(12, running, "p0,1,9;p1,1,1;p0,1,9;p1,1,9;d0;", "goes(-1)=10 goes(0)=1 goes(1)=3");
        // The head went, too: of two ahead of 2 one stays.
        holds(12, running, "p2,20,1;p0,1,9;p1,1,9;s9,1;d0;", "goes(-1)=1 come(1,1,9) goes(-1)=9");
        String sharp = "a SHARP one, if he would be DONE sooner there than in THE ROW";
        holds(12, sharp, "p0,2,1;p2,1,1;s1,2;d0;", "goes(-1)=0 done(1,0)=3");
        holds(12, sharp, "p0,3,1;p2,1,1;s1,2;d0;", "goes(-1)=2 done(1,0)=4 done(1,1)=3");
        holds(12, sharp, "p0,3,1;p2,1,1;s1,2;d1;", "goes(-1)=0");
        holds(12, sharp, "p2,10,1;s2,1;d9;", "goes(-1)=0");
        holds(12, sharp, "p2,10,1;s2,1;d8;", "goes(-1)=1 done(0,1)=19");
        // 2 runs and is DONE there at 9; 1 would be at 13.
        holds(12, sharp, "p0,11,1;p2,2,1;p1,4,1;s1,2;d0;", "goes(-1)=4 done(1,1)=13");
        holds(12, sharp, "p0,12,1;p2,2,1;p1,4,1;s1,2;d0;", "goes(-1)=6 done(1,1)=13");
        String staking = "a STAKING one as a SHARP one, but his place in THE ROW is held by a boy";
        holds(12, staking, "p0,2,1;p3,1,1;s1,2;d0;", "goes(-1)=0");
        holds(12, staking, "p0,3,1;p3,1,1;s1,2;d0;", "goes(-1)=2");
        // 1 went, his boy is none who stays: one stays ahead of 2.
        holds(12, staking, "p0,9,9;p3,9,1;p1,1,9;s9,1;d0;", "goes(-1)=2");
        // 2 does not wait for the boy of 1: DONE at 54 in THE ROW, there at 68.
        holds(12, staking, "p0,4,9;p3,9,1;p2,2,9;s9,6;d0;", "goes(-1)=2 done(1,1)=56 done(2,1)=54");
        holds(12, staking, "p3,10,1;s2,1;d9;", "goes(-1)=0");
        holds(12, staking, "p3,10,1;s2,1;d8;", "goes(-1)=1");
    }

    private static void goesBack() {
        String back = "goes back to his place, if he would be DONE sooner there (all who are away by then not being ahead "
            + "of him) than at the second TILL";
        // 1 is DONE there at 12, 0 at 36 (not at 40): in THE ROW 1 is DONE at 10.
        holds(12, back, "p2,20,2;p3,5,1;p0,3,9;s2,1;d5;", "goes(-1)=1 goes(0)=0 goes(1)=NONE done(1,1)=10");
        holds(12, back, "p2,20,2;p3,5,1;p0,3,9;s2,1;d4;", "goes(-1)=1 done(1,1)=10");
        // There at 10 as well.
        holds(12, back, "p2,20,2;p3,5,1;p0,3,9;s2,1;d3;", "goes(-1)=3 goes(0)=1 goes(1)=0 done(1,1)=10 done(2,1)=6");
        holds(12, "each STAKING one who went", "p2,20,2;p2,5,1;p0,3,9;s2,1;d5;", "goes(-1)=3 done(1,1)=12 done(2,1)=6");
        holds(12, "each STAKING one who went", "p2,20,2;p1,5,1;p0,3,9;s2,1;d5;", "goes(-1)=3 done(1,1)=12 done(2,1)=6");
        // A place is no use to who did not go.
        holds(12, "each STAKING one who went", "p3,20,9;p3,1,9;s1,1;d20;", "goes(-1)=0 done(1,1)=21");
        String lowest = "In the end each STAKING one who went, the lowest number first";
        // 2 is DONE there at 11, 1 at 17, 0 at 37. 1 goes back (12): then 2 would be DONE at 22.
        holds(12, lowest, "p2,20,2;p3,6,1;p3,5,1;s2,1;d5;", "goes(-1)=5 goes(0)=2 goes(1)=0 done(1,1)=12 done(2,1)=11");
        // 2 is DONE there at 16, 1 at 24, 0 at 44. 1 would be at 24 in THE ROW as well; 2 goes back (15).
        holds(12, lowest, "p2,20,1;p3,8,1;p3,5,1;s3,1;d10;", "goes(-1)=3 goes(0)=1 goes(1)=0 done(1,1)=24 done(2,1)=15");
        String there = "those behind him at the second TILL are not served sooner by that";
        // 0 is there at 8, but 1 is served till 12.
        holds(13, there, "p2,20,1;p3,5,1;p0,3,9;s2,1;d5;", "goes(-1)=1 done(0,1)=32 done(1,1)=10");
        String wait = "those behind him in THE ROW wait for him";
        holds(13, wait, "p2,20,2;p3,5,1;p0,3,9;s2,1;d5;", "done(2,1)=16 done(-1,1)=36 done(-2,1)=62");
        // Who does not go back is not waited for.
        holds(13, wait, "p2,20,2;p3,5,1;p0,3,9;s2,1;d3;", "done(2,1)=6");
        holds(12, "WHO GOES: as in 2, without those who went back (bits)", "p2,20,2;p3,5,1;p0,3,9;s2,1;d5;",
            "goes(-1)=1 goes(0)=0 goes(1)=NONE");
    }

    private static void goesOrder() {
        String served = "At the second TILL they are served in the order in which they made up their minds; each from when "
            + "he is there, or the one ahead of him is DONE there, if that is later";
        // 2 from 1 to 2; 1 is there at 18: the TILL waits for him.
        holds(13, served, "p0,20,9;p2,1,9;p2,1,1;s9,1;d0;", "goes(0)=2 goes(1)=1 done(2,1)=2 done(1,1)=19");
        // 2 is served from 1 to 21; 1 is there at 2 and waits.
        holds(13, served, "p0,20,9;p2,1,1;p2,20,1;s9,1;d0;", "goes(0)=2 goes(1)=1 done(2,1)=21 done(1,1)=22");
        // 2 is DONE there when 1 comes, at 4.
        holds(13, served, "p0,20,9;p2,1,2;p2,3,1;s9,1;d0;", "done(2,1)=4 done(1,1)=5");
        String order = "the order in which they are DONE there";
        holds(12, order, "p0,20,9;p2,1,1;p2,20,1;s9,1;d0;", "goes(0)=2 goes(1)=1 goes(2)=NONE");
        holds(12, order, "p0,20,9;p2,1,1;p2,20,3;s9,1;d0;", "goes(0)=1 goes(1)=2 goes(2)=NONE");
    }

    private static void done() {
        String told = "DONE: behind how many seconds (open = 1: the second TILL opens; 0: it does not); all (i = -1; 0: there "
            + "is nobody), all their seconds together (i = -2). BAD.";
        holds(13, told, "", "done(0,-1)=BAD done(0,2)=BAD done(-1,2)=BAD done(-2,-1)=BAD done(0,2147483647)=BAD",
            "done(0,-2147483648)=BAD done(0,0)=12 done(0,1)=12 done(-1,0)=62 done(-1,1)=41 done(-2,0)=230 done(-2,1)=172");
        holds(13, told, "", "done(-3,0)=BAD done(-3,1)=BAD done(6,0)=BAD done(6,1)=BAD done(7,1)=BAD done(8,1)=BAD",
            "done(2147483647,0)=BAD done(-2147483648,0)=BAD done(5,0)=62 done(5,1)=35");
        holds(13, told, "p0,20,9;s9,1;", "done(-1,0)=180 done(-2,0)=180 leave(0) done(-1,0)=0 done(-1,1)=0 done(-2,0)=0",
            "done(-2,1)=0 done(0,0)=BAD done(0,1)=BAD done(-3,0)=BAD done(-1,2)=BAD");
        String row = "each is DONE when all ahead of him and he himself have had V seconds for each THING";
        holds(13, row, "p0,1,1;p0,20,1;s1,1;", "done(0,0)=1 done(1,0)=21");
        holds(13, row, times(8, "p2,20,1;") + "s9,1;d0;", "done(0,0)=180 done(7,0)=1440 done(-1,0)=1440 done(-2,0)=6480");
    }

    private static void overtaken() {
        String told = "OVERTAKEN: how many twos (i = -1), by whom, as bits. BAD.";
        holds(14, told, "", "overtaken(-2)=BAD overtaken(6)=BAD overtaken(7)=BAD overtaken(8)=BAD overtaken(2147483647)=BAD",
            "overtaken(-2147483648)=BAD overtaken(-1)=4 overtaken(0)=0 overtaken(5)=0 overtaken(2)=48");
        holds(14, told, "p0,1,1;", "overtaken(-1)=0 overtaken(0)=0 overtaken(1)=BAD leave(0) overtaken(-1)=0 overtaken(0)=BAD");
        holds(14, told, times(8, "p2,1,1;") + "s9,1;d0;", "overtaken(-1)=28 overtaken(0)=254 overtaken(6)=128 overtaken(7)=0");
        String sooner = "twos of which the one who stands behind is DONE sooner than the other one, the second TILL opened";
        // Both are DONE at 3.
        holds(14, sooner, "p0,3,1;p1,1,1;s1,2;d0;", "done(0,1)=3 done(1,1)=3 overtaken(-1)=0 overtaken(0)=0");
        holds(14, sooner, "p0,4,1;p1,1,1;s1,2;d0;", "done(0,1)=4 done(1,1)=3 overtaken(-1)=1 overtaken(0)=2 overtaken(1)=0");
        // Who stands ahead and is DONE sooner overtakes nobody.
        holds(14, sooner, "p0,1,1;p1,9,1;s1,2;d0;", "done(0,1)=1 done(1,1)=19 overtaken(-1)=0 overtaken(1)=0");
    }

    private static void best() {
        String told = "BEST: the set (part = 0), as much (1). BAD.";
        holds(15, told, "", "best(-1,0)=BAD best(2,0)=BAD best(0,-1)=BAD best(0,2)=BAD best(1,2)=BAD best(2147483647,0)=BAD",
            "best(-2147483648,1)=BAD best(0,0)=18 best(0,1)=40 best(1,0)=36 best(1,1)=155");
        holds(15, told, "p0,1,1;", "leave(0) best(0,0)=0 best(0,1)=0 best(1,0)=0 best(1,1)=0 best(2,0)=BAD best(0,2)=BAD");
        // All eight: there at 1, .., 8, DONE at 21, 41, .., 161.
        holds(15, told, times(8, "p0,20,1;") + "s9,1;d0;", "best(1,0)=255 best(1,1)=728 best(0,1)=161 best(0,0)=255");
        String lowest = "all their seconds till DONE together are least (what 1), of several the lowest (bits)";
        // There at 5, DONE at 10, as at the first TILL.
        holds(15, lowest, "p0,5,1;s2,1;d4;", "best(0,0)=0 best(0,1)=10 best(1,0)=0 best(1,1)=10");
        holds(15, lowest, "p0,5,1;s2,1;d3;", "best(0,0)=1 best(0,1)=9 best(1,0)=1 best(1,1)=9");
        // 0 there: 3, 1: 2. 1 there: 2, 0: 2. Both: 1 at 2, 0 at 3. None: 2, 4.
        holds(15, lowest, "p0,1,1;p0,1,1;s2,1;d0;", "best(1,0)=2 best(1,1)=4 best(0,0)=2 best(0,1)=2");
        // 0 there: 3, 1: 3. 1 there: 2, 0: 3. Both: 2, 3.
        holds(15, lowest, "p0,1,1;p0,1,1;s3,1;d0;", "best(1,0)=2 best(1,1)=5 best(0,0)=1 best(0,1)=3");
        holds(15, "that by which all are DONE soonest (what 0)", "", "best(0,0)=18 best(1,0)=36");
        String free = "(served there in the order of 2; nobody holds a place)";
        // 1 is there at 1, 0 at 2: served in this order, DONE at 2 and 22; else 0 at 22, 1 at 23.
        holds(15, free, "p0,20,1;p0,1,1;s9,1;d0;", "best(1,0)=3 best(1,1)=24");
        // A STAKING one is sent as a STAYING one is: DONE there at 12, 36 and 74.
        holds(15, free, "p3,20,2;p3,5,1;p3,20,9;s9,1;d5;", "best(1,0)=7 best(1,1)=122");
        holds(15, free, "p0,20,2;p0,5,1;p0,20,9;s9,1;d5;", "best(1,0)=7 best(1,1)=122");
    }

    private static void fair() {
        String told = "FAIR: the set (part = 0), as much (1). BAD.";
        holds(16, told, "", "fair(-1)=BAD fair(2)=BAD fair(2147483647)=BAD fair(-2147483648)=BAD fair(0)=0 fair(1)=230");
        holds(16, told, "p0,1,1;", "leave(0) fair(0)=0 fair(1)=0 fair(2)=BAD");
        String nobody = "of sets by which nobody is OVERTAKEN that by which all their seconds together are least, of several "
            + "the lowest";
        // 1 is DONE there at 3 as 0 is: as soon is not sooner.
        holds(16, nobody, "p0,3,1;p0,1,1;s1,2;d0;", "fair(0)=2 fair(1)=6");
        // 1 is DONE there at 3, 0 at 4; 0 there at 10.
        holds(16, nobody, "p0,4,1;p0,1,1;s1,2;d0;", "best(1,0)=2 best(1,1)=7 fair(0)=0 fair(1)=9");
        // There at 5, DONE at 10 as well.
        holds(16, nobody, "p0,5,1;s2,1;d4;", "fair(0)=0 fair(1)=10");
        holds(16, nobody, "p0,5,1;s2,1;d3;", "fair(0)=1 fair(1)=9");
        // 0 there: 3 and 3; 1 there: 2, ahead of 0's 3.
        holds(16, nobody, "p0,1,1;p0,1,1;s3,1;d0;", "best(1,0)=2 fair(0)=1 fair(1)=6");
        // KIND is no matter.
        holds(16, nobody, "p3,1,1;p2,1,1;s3,1;d0;", "fair(0)=1 fair(1)=6");
    }

    private static void oneRow() {
        String told = "ONE ROW: DONE of a PERSON; all (i = -1), all seconds together (i = -2). BAD.";
        holds(17, told, "", "oneRow(-3)=BAD oneRow(6)=BAD oneRow(7)=BAD oneRow(8)=BAD oneRow(2147483647)=BAD",
            "oneRow(-2147483648)=BAD oneRow(-2)=147 oneRow(-1)=39 oneRow(0)=12 oneRow(5)=36");
        holds(17, told, "p0,1,1;", "leave(0) oneRow(-1)=0 oneRow(-2)=0 oneRow(0)=BAD oneRow(-3)=BAD");
        String free = "the next one always goes to the TILL that is free sooner (the first, if both are; seconds to walk do not "
            + "count)";
        holds(17, free, "p0,1,1;s9,1;", "oneRow(0)=9 oneRow(-1)=9 oneRow(-2)=9");
        // Both are free at 2: 2 is DONE at the first at 3, not at 4.
        holds(17, free, "p0,2,1;p0,1,1;p0,1,1;s1,2;", "oneRow(0)=2 oneRow(1)=2 oneRow(2)=3 oneRow(-1)=3 oneRow(-2)=7");
        // The second is free at 1, the first at 2.
        holds(17, free, "p0,2,1;p0,1,1;p0,1,1;s1,1;", "oneRow(1)=1 oneRow(2)=2");
        // The second is free at 3, the first at 2: 2 is DONE at 3, not at 6.
        holds(17, free, "p0,2,1;p0,1,1;p0,1,1;s1,3;", "oneRow(1)=3 oneRow(2)=3 oneRow(-1)=3");
        // Free sooner, though he would be DONE later there.
        holds(17, free, "p0,1,1;p0,20,1;s1,9;", "oneRow(0)=1 oneRow(1)=180");
        holds(17, free, "p0,1,9;p0,1,9;s1,1;d20;", "oneRow(0)=1 oneRow(1)=1");
    }

    private static void called() {
        String told = "CALLED: when all are DONE (what = 0), seconds together (1). BAD.";
        holds(18, told, "", "called(-1,0)=BAD called(3,0)=BAD called(0,-1)=BAD called(0,2)=BAD called(2,2)=BAD",
            "called(2147483647,0)=BAD called(-2147483648,0)=BAD called(0,0)=44 called(0,1)=175 called(2,1)=172");
        holds(18, told, "p0,1,1;", "leave(0) called(0,0)=0 called(1,0)=0 called(2,0)=0 called(0,1)=0 called(1,1)=0",
            "called(2,1)=0 called(3,0)=BAD");
        String every = "every second one (rule 0: places 1, 3, ..)";
        String head = "the half at the head but the first (rule 1: places 1 to n by 2, cut)";
        String end = "the half at the end (rule 2: places from n by 2, cut up, on)";
        // One: nobody goes. V 2, U 1, so that it would be sooner there.
        String one = "p0,9,1;s2,1;d0;";
        holds(18, every, one, "called(0,0)=18 called(0,1)=18");
        holds(18, head, one, "called(1,0)=18 called(1,1)=18");
        holds(18, end, one, "called(2,0)=18 called(2,1)=18");
        // Two: 1 goes, there at 1, DONE at 3; 0 at 1.
        String two = "p0,1,1;p0,2,1;s1,1;d0;";
        holds(18, every, two, "called(0,0)=3 called(0,1)=4");
        holds(18, head, two, "called(1,0)=3 called(1,1)=4");
        holds(18, end, two, "called(2,0)=3 called(2,1)=4");
        // Three: 1 goes (4; 0 at 1, 2 at 4), but at the end 2 (4; 0 at 1, 1 at 3).
        String three = "p0,1,1;p0,2,1;p0,3,1;s1,1;d0;";
        holds(18, every, three, "called(0,0)=4 called(0,1)=9");
        holds(18, head, three, "called(1,0)=4 called(1,1)=9");
        holds(18, end, three, "called(2,0)=4 called(2,1)=8");
        // Four of 1, 2, 4, 8: 1, 3 (9, 11; 1, 5), then 1, 2 (2 at 6, 1 at 8; 1, 9), then 2, 3 (9, 13; 1, 3).
        String four = "p0,1,1;p0,2,1;p0,4,1;p0,8,1;s1,1;d0;";
        holds(18, every, four, "called(0,0)=11 called(0,1)=26");
        holds(18, head, four, "called(1,0)=9 called(1,1)=24");
        holds(18, end, four, "called(2,0)=13 called(2,1)=26");
        // Five of a THING each, V 1, U 9: 1, 3 (11, 20; 1, 2, 3), then 1, 2 (12, 21), then 3, 4 (10, 19).
        String five = "p0,1,1;p0,1,1;p0,1,1;p0,1,1;p0,1,1;s1,9;d0;";
        holds(18, every, five, "called(0,0)=20 called(0,1)=37");
        holds(18, head, five, "called(1,0)=21 called(1,1)=39");
        holds(18, end, five, "called(2,0)=19 called(2,1)=35");
        // Eight, so too: the four who stay are DONE at 1, 2, 3, 4; the others from 1, 4 or 1 on, 9 each.
        String eight = times(8, "p0,1,1;") + "s1,9;d0;";
        holds(18, every, eight, "called(0,0)=37 called(0,1)=104");
        holds(18, head, eight, "called(1,0)=40 called(1,1)=116");
        holds(18, end, eight, "called(2,0)=37 called(2,1)=104");
        // Whoever is called goes, whatever KIND, and stays there.
        holds(18, "CALLED: those sent across are", "p3,1,1;p3,2,9;s1,9;d20;", "called(0,0)=207 called(0,1)=208");
    }

    private static void open() {
        String told = "OPEN: behind how many (what = 0), as much (1). BAD.";
        holds(19, told, "", "open(-1,0)=BAD open(21,0)=BAD open(0,-1)=BAD open(0,2)=BAD open(20,2)=BAD open(2147483647,0)=BAD",
            "open(-2147483648,0)=BAD open(0,0)=0 open(0,1)=155 open(20,0)=30 open(20,1)=215");
        String range = "OPEN: behind how many seconds d (0 to 30) it should open, which went by as in 2";
        holds(19, range, "p0,1,1;", "leave(0) open(0,0)=0 open(0,1)=0 open(1,0)=30 open(1,1)=0 open(20,0)=30 open(20,1)=0");
        // The TILL is of no use; 31 seconds would be better yet.
        holds(19, range, "p0,20,9;s1,9;d20;", "open(0,0)=0 open(0,1)=20 open(1,0)=30 open(1,1)=20");
        // A THING that is begun is lost: behind 27 seconds three are through, and 3 seconds cost as much as c.
        holds(19, range, "p0,20,1;s9,9;d20;", "open(0,0)=0 open(0,1)=180 open(1,0)=27 open(1,1)=183 open(2,0)=30 open(2,1)=183");
        String cost = "and c (0 to 20) times (30 less d) are least together, of several the first; as much";
        // At once 2 and 6; behind 2 seconds 0 was DONE at 2, and 1 takes 4 from then on: as much.
        holds(19, cost, "p0,1,1;p0,2,1;s2,9;d20;", "open(0,0)=0 open(0,1)=8 open(1,0)=30 open(1,1)=8 open(20,0)=30 open(20,1)=8");
        // At once: 1 is there at 1, DONE at 2, 0 at 9: 11, and 30 c. Behind 30: 9 and 18.
        holds(19, cost, "p0,1,9;p0,1,1;s9,1;d0;", "open(0,0)=0 open(0,1)=11 open(1,0)=30 open(1,1)=27");
        // At once: 30, and 30 c. Behind 27: 0 was DONE at 9, 1 has 18 THINGS, DONE at 46, and 3 c; behind 30: at 49.
        holds(19, cost, "p0,1,9;p0,20,1;s9,1;d0;", "open(0,0)=0 open(0,1)=30 open(1,0)=27 open(1,1)=58",
            "open(2,0)=30 open(2,1)=58");
        String gone = "(of those who are gone ahead of it as they were DONE; of the others d and their part of BEST of what 1 of "
            + "THE ROW then)";
        // Behind 30 seconds: 0 was DONE at 18; 1 has 20 THINGS less one, there at 31, DONE at 50.
        holds(19, gone, "p0,2,9;p0,20,1;s9,1;d0;", "open(20,0)=30 open(20,1)=68");
        holds(19, gone, "p0,2,9;p0,20,1;s9,1;d0;", "open(3,0) count(0)=2 person(0,1)=2 count(5)=0 count(2)=1");
    }

    private static void tape() {
        String told = "On the TAPE: how many. BAD; FULL.";
        holds(20, told, "", "tape(-1,0)=BAD tape(6,0)=BAD tape(7,0)=BAD tape(8,0)=BAD tape(2147483647,0)=BAD",
            "tape(-2147483648,1)=BAD count(4)=0 tape(0,0)=1 tape(5,1)=2");
        holds(20, told, "", "tape(0,-1)=BAD tape(0,2)=BAD tape(0,2147483647)=BAD tape(0,-2147483648)=BAD count(4)=0",
            "tape(0,1)=1 tape(0,0)=2");
        holds(20, told, "p0,1,1;", "tape(1,0)=BAD tape(0,0)=1 leave(0) tape(0,0)=BAD count(4)=0");
        String most = "TAPE (8 at most;";
        holds(20, most, "", "7*tape(0,0) tape(5,1)=8 tape(0,0)=FULL tape(5,1)=FULL count(4)=8 forget()=8 tape(0,0)=1");
        holds(20, "FULL. Of several the first; nothing changes then.", "", "8*tape(0,0) tape(6,0)=BAD tape(0,2)=BAD",
            "tape(0,0)=FULL count(4)=8");
        String emptied = "emptied where THE ROW changes, or anything is UNDONE or gone back from)";
        holds(20, emptied, "", "tape(0,0) come(0,1,1) count(4)=0");
        holds(20, emptied, "", "8*tape(0,0) leave(5) count(4)=0 tape(0,0)=1");
        holds(20, emptied, "", "tape(0,0) pass(2) count(4)=0");
        holds(20, emptied, "", "slow(4) tape(0,0) undo() count(4)=0");
        holds(20, emptied, "", "come(0,1,1) tape(0,0) undo() count(4)=0");
        holds(20, emptied, "", "keep() tape(0,0) back() count(4)=0");
        holds(20, emptied, "", "tape(0,0) slow(9) count(4)=1 keep() count(4)=1 write(112) wipe() count(4)=1");
        // Where nothing changes.
        holds(20, emptied, "p0,1,1;", "tape(0,0) come(4,1,1)=BAD leave(1)=BAD pass(0)=BAD slow(0)=BAD undo()=NO back()=NO lay()",
            "count(4)=0 tape(0,0) write(120) lay()=NO undo()=NO back()=NO pass(201)=BAD leave(-1)=BAD count(4)=1");
        holds(20, emptied, times(8, "p0,1,1;"), "tape(0,0) come(0,1,1)=FULL count(4)=1");
    }

    private static void forget() {
        String told = "Nothing is on the TAPE: how many were.";
        holds(21, told, "", "forget()=0 tape(0,0) forget()=1 forget()=0 count(4)=0");
        holds(21, told, "", "8*tape(0,1) kinds(0)=0 forget()=8 kinds(0)=15 forget()=0 tape(0,0)=1");
        holds(21, told, "", "tape(0,0) slow(5) keep() forget()=1 count(0)=6 count(2)=5 count(5)=1 count(6)=1");
    }

    private static void kinds() {
        String told = "`int kinds(int i)`: KINDS, as bits. BAD.";
        holds(22, told, "", "kinds(-1)=BAD kinds(6)=BAD kinds(7)=BAD kinds(8)=BAD kinds(2147483647)=BAD",
            "kinds(-2147483648)=BAD kinds(0)=15 kinds(5)=15");
        holds(22, told, "p0,1,1;", "kinds(0)=15 kinds(1)=BAD leave(0) kinds(0)=BAD");
        String all = "KINDS of a PERSON: those (bits) by which, all others being as they are, all that is on the TAPE would be "
            + "so, the second TILL opened now.";
        holds(22, all, "", "tape(3,1) kinds(3)=14 tape(3,1) kinds(3)=14 forget() tape(3,0) kinds(3)=1 tape(3,1) kinds(3)=0",
            "kinds(0)=0 forget() kinds(3)=15");
        // The last of eight on the TAPE counts as the first does.
        holds(22, all, "", "7*tape(3,1) tape(3,0) kinds(3)=0 forget() tape(3,0) 7*tape(3,1) kinds(3)=0");
        // RUNNING, he goes though it is later; SHARP and STAKING he stays.
        holds(22, all, "p0,1,1;p0,9,1;s1,9;d20;", "tape(1,1) kinds(1)=2 kinds(0)=0 forget() tape(1,0) kinds(1)=13 kinds(0)=15");
        // Who goes back is not DONE there.
        holds(22, all, "p2,20,2;p3,5,1;p0,3,9;s2,1;d5;", "tape(1,0) kinds(1)=9 forget() tape(1,1) kinds(1)=6");
        // 1 goes by what 2 does: if 2 runs, one went.
        holds(22, all, "p0,1,1;p1,9,2;p0,9,1;s1,9;d20;", "tape(1,1) kinds(2)=13 forget() tape(1,0) kinds(2)=2",
            "person(2,0)=0 count(5)=0");
        // Opened now, by the U of now.
        holds(22, all, "p0,9,1;p2,1,1;s1,1;d0;", "tape(1,1) kinds(1)=14 slow(9) kinds(1)=2");
    }

    private static void beaten() {
        String told = "BEATEN: above (part = 0), below (1). BAD.";
        holds(23, told, "", "beaten(-1,0,0)=BAD beaten(6,0,0)=BAD beaten(7,0,0)=BAD beaten(8,5,1)=BAD",
            "beaten(2147483647,0,0)=BAD beaten(-2147483648,0,0)=BAD beaten(5,0,0)=1 beaten(0,0,0)=1");
        holds(23, told, "", "beaten(0,5,-1)=BAD beaten(0,5,2)=BAD beaten(0,5,2147483647)=BAD beaten(0,5,-2147483648)=BAD",
            "beaten(0,5,0)=1 beaten(0,5,1)=8");
        holds(23, told, "p0,1,1;", "beaten(1,5,0)=BAD leave(0) beaten(0,5,0)=BAD");
        String chance = "each other one goes across by the chance of x (0 to 10) of ten for himself (whatever KIND)";
        holds(23, chance, "", "beaten(0,-1,0)=BAD beaten(0,11,0)=BAD beaten(0,2147483647,1)=BAD beaten(0,-2147483648,1)=BAD");
        holds(23, chance, "", "beaten(1,0,0)=1 beaten(1,0,1)=1 beaten(1,10,0)=0 beaten(1,10,1)=1 beaten(4,10,0)=1",
            "beaten(4,10,1)=1 beaten(4,0,0)=1 beaten(4,0,1)=1");
        holds(23, chance, "p0,1,1;", "beaten(0,0,0)=1 beaten(0,10,0)=1 beaten(0,10,1)=1 beaten(0,7,1)=1");
        holds(23, chance, "p0,1,9;p0,1,1;d0;", "beaten(0,1,0)=9 beaten(0,1,1)=10 beaten(1,1,0)=1 beaten(1,1,1)=1");
        holds(23, chance, "p3,1,9;p2,1,1;d0;", "beaten(0,1,0)=9 beaten(0,1,1)=10 beaten(1,1,0)=1 beaten(1,1,1)=1");
        String terms = "how likely a PERSON who goes is there first (as by 2), in lowest terms";
        String eight = times(8, "p1,1,1;");
        holds(23, terms, eight, "beaten(0,1,0)=4782969 beaten(0,1,1)=10000000 beaten(0,9,0)=1 beaten(0,9,1)=10000000",
            "beaten(0,7,0)=2187 beaten(0,7,1)=10000000 beaten(0,3,0)=823543 beaten(7,1,0)=1 beaten(7,1,1)=1");
        holds(23, terms, eight, "beaten(0,5,0)=1 beaten(0,5,1)=128 beaten(0,2,0)=16384 beaten(0,2,1)=78125 beaten(0,8,0)=1",
            "beaten(0,8,1)=78125 beaten(0,4,0)=2187 beaten(0,4,1)=78125 beaten(0,6,0)=128 beaten(0,6,1)=78125");
        // Both are there at 6: the last in THE ROW is first.
        holds(23, terms, "p0,1,9;p0,1,2;p0,1,3;d1;", "beaten(1,9,1)=10 beaten(2,9,1)=1 beaten(0,9,1)=100");
    }

    private static void learner() {
        String told = "LEARNER: the greatest U (1 to 9) by which BEST of what 1 is less than without the second TILL; none.";
        // 1 across is DONE at 1 and U, 0 when he would be anyway: less by U below his THINGS.
        holds(24, told, "p0,10,9;p0,1,1;s1,1;d0;", "learner()=9");
        holds(24, told, "p0,9,9;p0,1,1;s1,9;d0;", "learner()=8 count(2)=9");
        holds(24, told, "p0,2,9;p0,1,1;s1,9;d0;", "learner()=1");
        holds(24, told, "p0,1,9;p0,1,1;s1,1;d0;", "learner()=NONE count(2)=1");
        String none = "`int learner()`: LEARNER. NONE.";
        holds(24, none, "p0,20,9;s1,1;d20;", "learner()=NONE");
        holds(24, none, "p0,1,1;", "leave(0) learner()=NONE");
        // By THE ROW of now: of the head's THINGS one is through; then another one stands there.
        holds(24, told, "p0,9,9;p0,1,1;s1,9;d0;", "pass(1) learner()=7 undo() learner()=8 leave(0) learner()=NONE");
        // The U of now is no matter.
        holds(24, told, "p0,9,9;p0,1,1;s1,1;d0;", "learner()=8 slow(5) learner()=8 count(2)=5 count(5)=1");
    }

    private static void day() {
        String told = "A DAY: DONE (what = 0), there (1). BAD.";
        holds(25, told, "", "day(0,1,-1)=BAD day(0,1,2)=BAD day(0,1,2147483647)=BAD day(0,1,-2147483648)=BAD day(0,1,1)=7");
        String range = "A DAY by z (0 to 9999) of n (1 to 30) times";
        holds(25, range, "", "day(-1,1,0)=BAD day(10000,1,0)=BAD day(2147483647,1,0)=BAD day(-2147483648,1,0)=BAD",
            "day(0,1,0)=0 day(9999,1,0)");
        holds(25, range, "", "day(0,0,0)=BAD day(0,31,0)=BAD day(0,-1,0)=BAD day(0,2147483647,0)=BAD",
            "day(0,-2147483648,0)=BAD day(0,1,0)=0 day(0,30,0)");
        String fewer = "in each one comes of KIND DRAW modulo 4, with (DRAW by 4, cut) modulo 9 and 1 THINGS, F (DRAW by 64, "
            + "cut) modulo 5 and 1, if there are fewer than 8, then (DRAW by 16, cut) modulo 20 seconds go by (as in 2)";
        // DRAW 1: one of KIND 1 with 1 THING comes, 0 seconds go by.
        holds(25, fewer, "p0,9,1;s1,1;", "leave(0) day(0,1,1)=1 day(0,1,0)=0");
        holds(25, fewer, times(7, "p0,1,1;") + "s1,1;", "day(0,1,1)=8 day(0,1,0)=0");
        holds(25, fewer, times(8, "p0,1,1;") + "s1,1;", "day(0,1,1)=8 day(0,1,0)=0");
        // Then DRAW 41487: 4 THINGS, 12 seconds. Eight stand there: nobody came; of V 1 all are gone.
        holds(25, fewer, times(8, "p0,1,1;") + "s1,1;", "day(0,2,1)=0 day(0,2,0)=8");
        // Of seven with a THING each one came, then nobody: 12 seconds for 8 THINGS.
        holds(25, fewer, times(7, "p0,1,1;") + "s1,1;", "day(0,2,1)=0 day(0,2,0)=8");
        // Of six one came with 1, one with 4 THINGS: 12 seconds for 11.
        holds(25, fewer, times(6, "p0,1,1;") + "s1,1;", "day(0,2,1)=0 day(0,2,0)=8");
        holds(25, fewer, times(6, "p0,2,1;") + "s1,1;", "day(0,2,1)=2 day(0,2,0)=6");
        // DRAW 10299 as the third: 1 THING, 3 seconds: one comes, for now there are 2; 1 and 4 and 1 THINGS less 3.
        holds(25, fewer, times(6, "p0,2,1;") + "s1,1;", "day(0,3,1)=2 day(0,3,0)=7");
        // To an empty ROW comes one: 9 THINGS and 9 seconds, 9 and 8, 1 and 1, 9 and 0, 1 and 0.
        holds(25, fewer, "p0,1,1;s1,1;", "leave(0) day(218,1,0)=1 day(218,1,1)=0 day(108,1,0)=0 day(108,1,1)=1 day(238,1,0)=1",
            "day(238,1,1)=0 day(36,1,0)=0 day(36,1,1)=1 day(0,1,0)=0 day(0,1,1)=1");
        // 1 THING and 19 seconds: with 18 ahead of it all are through, with 19 not.
        holds(25, fewer, "p0,18,1;s1,1;", "day(229,1,0)=2 day(229,1,1)=0");
        holds(25, fewer, "p0,19,1;s1,1;", "day(229,1,0)=1 day(229,1,1)=1");
        holds(25, fewer, "p0,20,1;s1,1;", "day(229,1,0)=0 day(229,1,1)=2");
        String draw = "DRAW being ((q times q) modulo 65521), q 7919 z, 6151 (the time, 0 first) and 1 together";
        // z 9999: DRAW 51303 (q 79182082, its square far beyond 32 bits): 1 THING, 6 seconds.
        holds(25, draw, "p0,5,1;s1,1;", "day(9999,1,0)=2 day(9999,1,1)=0");
        holds(25, draw, "p0,6,1;s1,1;", "day(9999,1,0)=1 day(9999,1,1)=1");
        holds(25, draw, "p0,7,1;s1,1;", "day(9999,1,0)=0 day(9999,1,1)=2");
        // z 1: DRAW 22803: 4 THINGS, 5 seconds.
        holds(25, draw, "p0,1,1;s1,1;", "day(1,1,0)=2 day(1,1,1)=0");
        holds(25, draw, "p0,2,1;s1,1;", "day(1,1,0)=1 day(1,1,1)=1");
        holds(25, draw, "p0,1,1;s2,1;", "day(1,1,0)=1 day(1,1,1)=1");
        days(draw);
        holds(25, "how many are DONE and gone; how many stand there then", "p0,1,1;s1,1;", "tape(0,0) day(77,30,0) count(0)=1",
            "person(0,1)=1 count(4)=1 count(5)=0 undo()=NO");
    }

    /** Each n at the first and the last z beside days reckoned here, THE ROW being a list of THINGS. */
    private static void days(String sentence) {
        quote(25, sentence);
        for (int z = 0; z <= 9999; z += 303) {
            for (int v : new int[] {1, 2, 5, 9}) {
                SecondTill x = laid(25, sentence, "p0,3,1;p0,12,1;s" + v + ",1;");
                List<Integer> row = new ArrayList<>(List.of(3, 12));
                int gone = 0;
                for (int time = 0; time < 30; time++) {
                    long q = 7919L * z + 6151L * time + 1;
                    long draw = q * q % 65521;
                    if (row.size() < 8) {
                        row.add((int) (draw / 4 % 9 + 1));
                    }
                    for (long left = draw / 16 % 20 / v; left > 0 && !row.isEmpty(); left--) {
                        row.set(0, row.get(0) - 1);
                        if (row.get(0) == 0) {
                            row.remove(0);
                            gone++;
                        }
                    }
                    String day = "day(" + z + "," + (time + 1) + ",";
                    ask(25, sentence, x, day + "0)=" + gone + " " + day + "1)=" + row.size());
                }
            }
        }
    }

    private static void keep() {
        String told = "`int keep()`: KEPT: how many. FULL.";
        holds(26, told, "", "keep()=1 keep()=2 keep()=FULL count(6)=2 back()=1 keep()=2 keep()=FULL");
        String most = "KEPT are THE ROW and U: 2 at most.";
        holds(26, most, "", "keep()=1 slow(9) leave(0) keep()=2 pass(200) slow(1) keep()=FULL count(0)=0 count(2)=1 back()=1",
            "count(0)=5 count(2)=9 person(0,0)=1 back()=0 count(0)=6 count(2)=3 person(0,0)=0 count(1)=2 count(3)=3");
        holds(26, most, "", "tape(0,0) slow(4) keep()=1 count(4)=1 count(5)=1 count(0)=6 count(2)=4 undo()=0 count(6)=1");
        holds(26, most, "p3,4,5;", "leave(0) keep()=1 come(0,1,1) back()=0 count(0)=0");
        // What is KEPT stays so whatever is done meanwhile.
        holds(26, most, "p3,4,5;s1,1;", "keep() pass(3) person(0,1)=1 back()=0 person(0,1)=4 person(0,0)=3 person(0,2)=5");
    }

    private static void back() {
        String told = "As KEPT last: how many are left; nothing is UNDONE then. NO.";
        holds(27, told, "", "back()=NO keep() back()=0 back()=NO");
        holds(27, told, "", "slow(1) tape(0,0) back()=NO count(2)=1 count(4)=1 count(5)=1 undo()=0 count(2)=3");
        holds(27, told, "", "slow(1) keep() slow(2) keep() slow(4) back()=1 count(2)=2 back()=0 count(2)=1 back()=NO");
        holds(27, told, "", "slow(1) keep() slow(2) slow(3) count(5)=3 back()=0 count(5)=0 undo()=NO count(2)=1");
        holds(27, told, "", "keep() leave(0) undo() leave(0) leave(0) back()=0 count(0)=6 person(0,0)=0 undo()=NO");
        // THE TEXT is not gone back from.
        holds(27, told, "", "write(120) keep() write(121) back()=0 count(7)=2");
    }

    private static void count() {
        String told = "How many: 0 PERSONS, 1 V, 2 U, 3 D, 4 on the TAPE, 5 that can be UNDONE, 6 KEPT, 7 letters of THE TEXT. "
            + "BAD.";
        holds(28, told, "", "count(-1)=BAD count(8)=BAD count(2147483647)=BAD count(-2147483648)=BAD count(0)=6 count(7)=0");
        holds(28, told, "p0,1,1;s1,9;d0;", "count(0)=1 count(1)=1 count(2)=9 count(3)=0 count(4)=0 count(5)=0 count(6)=0",
            "count(7)=15 leave(0) count(0)=0 count(5)=1");
        holds(28, told, times(8, "p0,20,9;") + "s9,1;d20;", "count(0)=8 count(1)=9 count(2)=1 count(3)=20 9*slow(3) 8*tape(0,0)",
            "2*keep() count(4)=8 count(5)=8 count(6)=2 count(2)=3 count(7)=73");
    }

    // ---- of all promises

    /** All that can be seen: how things stand, then what can be UNDONE, then what is KEPT. */
    private static List<Integer> seen(SecondTill x) {
        List<Integer> seen = new ArrayList<>();
        look(x, seen);
        for (int k = 0; k < 8 && x.undo() >= 0; k++) {
            look(x, seen);
        }
        for (int k = 0; k < 2 && x.back() >= 0; k++) {
            look(x, seen);
        }
        return seen;
    }

    private static void look(SecondTill x, List<Integer> seen) {
        for (int what = 0; what < 8; what++) {
            seen.add(x.count(what));
        }
        seen.add(x.fault());
        for (int i = 0; i < x.count(0); i++) {
            seen.addAll(List.of(x.person(i, 0), x.person(i, 1), x.person(i, 2), x.kinds(i)));
        }
    }

    /** Behind each of the calls all is as it is without it. */
    private static void leavesAllAsItWas(String sentence, String state, String calls) {
        for (String call : calls.trim().split("\\s+")) {
            int promise = promiseOf(call.substring(0, call.indexOf('(')));
            quote(promise, sentence);
            SecondTill with = new SecondTill();
            SecondTill without = new SecondTill();
            ask(promise, sentence, with, state);
            ask(promise, sentence, without, state);
            ask(promise, sentence, with, call);
            if (!seen(with).equals(seen(without))) {
                fail(promise, sentence, call + " changes something, behind " + state);
            }
        }
    }

    /** 2 for write, .., 28 for count; 1 if the document has none of that name. */
    private static int promiseOf(String name) {
        Matcher heading = Pattern.compile("## Promise (\\d+): " + name + " ").matcher(document);
        return heading.find() ? Integer.parseInt(heading.group(1)) : 1;
    }

    private static void nothingChanges() {
        String refusal = "BAD: a number is none that is told (PERSONS: such as there are in THE ROW). NO: not as things stand. "
            + "NONE: there is none. FULL. Of several the first; nothing changes then.";
        String full = "come(0,1,1) 2*keep() come(1,2,2) 7*slow(1) tape(4,1) 7*tape(3,1) write(112)";
        leavesAllAsItWas(refusal, full, "write(31)=BAD lay()=NO person(8,0)=BAD person(0,4)=BAD come(0,1,1)=FULL"
            + " come(4,1,1)=BAD leave(8)=BAD pass(0)=BAD pass(201)=BAD slow(0)=BAD slow(10)=BAD goes(8)=BAD goes(7)=NONE"
            + " done(8,1)=BAD done(0,2)=BAD overtaken(8)=BAD best(2,0)=BAD fair(2)=BAD oneRow(8)=BAD called(3,0)=BAD"
            + " open(21,0)=BAD tape(8,0)=BAD tape(0,2)=BAD tape(0,0)=FULL kinds(8)=BAD beaten(8,0,0)=BAD beaten(0,11,0)=BAD"
            + " day(10000,1,0)=BAD day(0,31,0)=BAD keep()=FULL count(8)=BAD");
        leavesAllAsItWas(refusal, "200*write(112)", "write(112)=FULL write(127)=BAD lay()=NO undo()=NO back()=NO");
        leavesAllAsItWas(refusal, "6*leave(0) keep() back() write(100) write(49) write(59)", "lay()=NO leave(0)=BAD undo()=NO"
            + " back()=NO tape(0,0)=BAD person(0,0)=BAD done(0,0)=BAD goes(0)=NONE overtaken(0)=BAD oneRow(0)=BAD kinds(0)=BAD"
            + " beaten(0,5,0)=BAD learner()=NONE");
        // What only tells changes nothing either.
        leavesAllAsItWas("how many stand there then", full, "fault() person(0,3) goes(-1) goes(0) done(-1,1) done(0,0)"
            + " overtaken(-1) overtaken(3) best(0,0) best(1,1) fair(0) oneRow(-2) called(0,0) called(2,1) open(0,0) open(20,1)"
            + " kinds(4) beaten(5,5,1) learner() day(0,30,0) day(9999,30,1) count(4)");
    }

    private static void allCalls() {
        String most = "An object is used for at most 512 calls after it has been made";
        holds(1, most, "", "200*write(112) wipe() 150*slow(9) 150*come(4,1,1)=BAD 8*tape(0,0) goes(-1)=16 undo()=7 count(2)=9");
        // Objects share nothing.
        SecondTill x = new SecondTill();
        SecondTill y = new SecondTill();
        quote(1, most);
        ask(1, most, x, "come(0,1,1)=7 slow(9) tape(0,0) keep() write(112)");
        ask(1, most, y, "count(0)=6 count(2)=3 count(4)=0 count(5)=0 count(6)=0 count(7)=0");
    }

    // ---- whether nothing is left out

    /** Each range, limit and choice of the document stands in a sentence that has a test. */
    private static void everyBoundaryIsQuoted() {
        Matcher boundary = Pattern.compile("\\(\\d+ to \\d+|at most|at least \\(|\\d without; the last one|of several|the last 8"
            + "|fewer than 8|the first, if both are|if that is later|\\(0: the head\\)|the last one D and 1|nobody|sooner"
            + "|are more than|\\bcut\\b|less than|; none\\.|none left|not so many|one or two figures|\\(k = -1\\)|i = -[12]"
            + "|0 first|nothing changes|lowest terms|\\b(?:BAD|NO|FULL|NONE)\\b").matcher(document);
        int end = document.indexOf("## Not promised");
        int terms = document.indexOf("## Terms");
        boundary.region(document.indexOf("A TEXT is letters"), end < 0 ? document.length() : end);
        while (boundary.find()) {
            boolean face = boundary.start() < terms && document.startsWith("= -", boundary.end() + 1);
            if (!face && !isQuoted(boundary.start(), boundary.end())) {
                int from = Math.max(0, boundary.start() - 30);
                fail(1, document.substring(from, boundary.end()), "no test quotes this boundary");
            }
        }
    }

    private static boolean isQuoted(int start, int end) {
        for (String sentence : quoted) {
            for (int at = document.indexOf(sentence); at >= 0; at = document.indexOf(sentence, at + 1)) {
                if (at <= start && end <= at + sentence.length()) {
                    return true;
                }
            }
        }
        return false;
    }

    /** Each BAD, NO, FULL, NONE of a promise was due to a call of it in a test that names the promise. */
    private static void everyRefusalIsTested() {
        Matcher promise = Pattern.compile("## Promise (\\d+): (\\w+) (`.*?)(?=## )").matcher(document);
        int promises = 0;
        while (promise.find()) {
            if (promise.group(1).equals("1")) {
                continue;
            }
            promises++;
            Matcher word = Pattern.compile("\\b(BAD|NO|FULL|NONE)\\b").matcher(promise.group(3));
            while (word.find()) {
                String due = promise.group(1) + " " + promise.group(2) + " " + word.group();
                if (!refused.contains(due)) {
                    fail(Integer.parseInt(promise.group(1)), word.group(), "no test is due to answer so");
                }
            }
        }
        if (promises != 27) {
            fail(1, "## Promise", "27 promises of calls were looked for, " + promises + " found");
        }
    }
}
