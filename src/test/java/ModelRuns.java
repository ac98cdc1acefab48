import java.util.ArrayDeque;
import java.util.ArrayList;
import java.util.Arrays;
import java.util.Comparator;
import java.util.Deque;
import java.util.LinkedHashMap;
import java.util.List;
import java.util.Map;
import java.util.Random;
import java.util.regex.Matcher;
import java.util.regex.Pattern;

/** Runs of calls by fixed draws, each answer beside that of a slow model read from the document. */
public final class ModelRuns {
    private static final int RUNS = 1500, CALLS = 260;
    private static final int BAD = -1, NO = -2, FULL = -3, NONE = -4;
    private static final String[] NAMES = {
        "write", "wipe", "fault", "lay", "person", "come", "leave", "pass", "slow", "undo", "goes", "done",
        "overtaken", "best", "fair", "oneRow", "called", "open", "tape", "forget", "kinds", "beaten",
        "learner", "day", "keep", "back", "count"};

    private static final int COME = 5;

    private record Person(int kind, int things, int feet) { }

    private record Shop(List<Person> row, int v, int u, int d) { }

    private record Entry(int who, int till) { }

    public static void main(String[] args) {
        int wrong = 0;
        long asked = 0;
        for (int run = 0; run < RUNS && wrong < 10; run++) {
            Random random = new Random(run);
            SecondTill x = new SecondTill();
            Model model = new Model();
            List<int[]> calls = new ArrayList<>();
            tell(calls, run % 5 == 0 ? "" : drawText(random));
            for (int k = calls.size(); k < CALLS; k++) {
                calls.add(drawCall(random));
                int[] call = calls.get(k);
                if (call[0] == 0 && random.nextInt(3) == 0) {
                    tell(calls, drawText(random));
                    k = calls.size() - 1;
                }
            }
            for (int k = 0; k < calls.size() && k < 512; k++) {
                int got = ask(x, calls.get(k));
                int want = model.ask(calls.get(k));
                asked++;
                if (got != want) {
                    wrong++;
                    System.out.println("run " + run + ", call " + k + ": " + told(calls.get(k)) + " answered " + got
                        + ", the model " + want + ", at " + model.now);
                    break;
                }
            }
        }
        System.out.println(asked + " answers asked for, " + wrong + " runs not as the model");
        if (wrong != 0) {
            System.exit(1);
        }
    }

    private static void tell(List<int[]> calls, String text) {
        calls.add(new int[] {1, 0, 0, 0});
        for (int i = 0; i < text.length(); i++) {
            calls.add(new int[] {0, text.charAt(i), 0, 0});
        }
        calls.add(new int[] {2, 0, 0, 0});
        calls.add(new int[] {3, 0, 0, 0});
    }

    private static String drawText(Random random) {
        StringBuilder text = new StringBuilder();
        int persons = random.nextInt(9) + (random.nextInt(20) == 0 ? 1 : 0);
        boolean quick = random.nextBoolean();
        for (int i = 0; i < persons; i++) {
            int kind = random.nextInt(4);
            if (random.nextInt(3) == 0) {
                kind = 3;
            }
            text.append('p').append(kind).append(',').append(1 + random.nextInt(20)).append(',')
                .append(1 + random.nextInt(quick ? 3 : 9)).append(';');
        }
        if (random.nextInt(4) != 0) {
            text.append('s').append(1 + random.nextInt(9)).append(',').append(1 + random.nextInt(9)).append(';');
        }
        if (random.nextInt(4) != 0) {
            text.append('d').append(random.nextInt(random.nextBoolean() ? 4 : 21)).append(';');
        }
        if (random.nextInt(4) == 0 && text.length() > 0) {
            String letters = "psd0123456789,;; x";
            text.setCharAt(random.nextInt(text.length()), letters.charAt(random.nextInt(letters.length())));
        }
        return text.toString();
    }

    private static int drawName(Random random) {
        int name = random.nextInt(NAMES.length);
        boolean empties = NAMES[name].equals("leave") || NAMES[name].equals("pass");
        // Else most rows would be all but empty.
        return empties && random.nextInt(3) != 0 ? COME : name;
    }

    private static int[] drawCall(Random random) {
        int[] call = {drawName(random), 0, 0, 0};
        int slip = random.nextInt(12) == 0 ? random.nextInt(4) - 1 : 0;
        int who = random.nextInt(8) - (random.nextInt(3) == 0 ? 3 : 0);
        int half = random.nextInt(2) + slip;
        switch (NAMES[call[0]]) {
            case "write": call[1] = 30 + random.nextInt(100); break;
            case "person": call[1] = who; call[2] = random.nextInt(4) + slip; break;
            case "come": call[1] = random.nextInt(4) + slip; call[2] = random.nextInt(22); call[3] = 1 + random.nextInt(9) + slip; break;
            case "leave": call[1] = who; break;
            case "pass": call[1] = random.nextInt(random.nextInt(8) == 0 ? 203 : 25); break;
            case "slow": call[1] = random.nextInt(11); break;
            case "goes": call[1] = random.nextInt(11) - 2; break;
            case "done": call[1] = who; call[2] = half; break;
            case "best": call[1] = random.nextInt(2); call[2] = half; break;
            case "fair": call[1] = half; break;
            case "called": call[1] = random.nextInt(3) + slip; call[2] = random.nextInt(2); break;
            case "open": call[1] = random.nextInt(random.nextBoolean() ? 6 : 22); call[2] = half; break;
            case "tape": call[1] = who; call[2] = half; break;
            case "beaten": call[1] = who; call[2] = random.nextInt(11) + slip; call[3] = random.nextInt(2); break;
            case "day": call[1] = random.nextInt(10001) - (slip & 1); call[2] = random.nextInt(32); call[3] = half; break;
            case "count": call[1] = random.nextInt(10) - 1; break;
            default: call[1] = who; break;
        }
        return call;
    }

    private static String told(int[] call) {
        return NAMES[call[0]] + Arrays.toString(Arrays.copyOfRange(call, 1, 4));
    }

    private static int ask(SecondTill x, int[] call) {
        int a = call[1];
        int b = call[2];
        int c = call[3];
        switch (NAMES[call[0]]) {
            case "write": return x.write(a);
            case "wipe": return x.wipe();
            case "fault": return x.fault();
            case "lay": return x.lay();
            case "person": return x.person(a, b);
            case "come": return x.come(a, b, c);
            case "leave": return x.leave(a);
            case "pass": return x.pass(a);
            case "slow": return x.slow(a);
            case "undo": return x.undo();
            case "goes": return x.goes(a);
            case "done": return x.done(a, b);
            case "overtaken": return x.overtaken(a);
            case "best": return x.best(a, b);
            case "fair": return x.fair(a);
            case "oneRow": return x.oneRow(a);
            case "called": return x.called(a, b);
            case "open": return x.open(a, b);
            case "tape": return x.tape(a, b);
            case "forget": return x.forget();
            case "kinds": return x.kinds(a);
            case "beaten": return x.beaten(a, b, c);
            case "learner": return x.learner();
            case "day": return x.day(a, b, c);
            case "keep": return x.keep();
            case "back": return x.back();
            default: return x.count(a);
        }
    }

    private static final class Model {
        private static final Pattern ITEM = Pattern.compile(
            "p(\\d{1,2}),(\\d{1,2}),(\\d{1,2});|s(\\d{1,2}),(\\d{1,2});|d(\\d{1,2});");

        private String text = "";
        private Shop now = read("p0,6,2;p1,4,3;p2,9,2;p3,2,4;p1,7,1;p2,3,2;s2,3;d3;", new int[1]);
        private final List<Entry> tape = new ArrayList<>();
        private final Deque<Shop> past = new ArrayDeque<>();
        private final Deque<Shop> kept = new ArrayDeque<>();

        private static boolean in(int number, int least, int most) {
            return least <= number && number <= most;
        }

        private boolean isWho(int i) {
            return in(i, 0, now.row.size() - 1);
        }

        private static Shop read(String text, int[] fault) {
            List<Person> row = new ArrayList<>();
            int v = 2;
            int u = 2;
            int d = 2;
            int at = 0;
            fault[0] = NONE;
            Matcher item = ITEM.matcher(text);
            while (at < text.length()) {
                item.region(at, text.length());
                boolean good = item.lookingAt();
                if (good && item.group(1) != null) {
                    Person person = new Person(number(item, 1), number(item, 2), number(item, 3));
                    good = row.size() < 8 && isPerson(person);
                    row.add(person);
                } else if (good && item.group(4) != null) {
                    v = number(item, 4);
                    u = number(item, 5);
                    good = in(v, 1, 9) && in(u, 1, 9);
                } else if (good) {
                    d = number(item, 6);
                    good = in(d, 0, 20);
                }
                if (!good) {
                    fault[0] = at;
                    return null;
                }
                at = item.end();
            }
            return new Shop(row, v, u, d);
        }

        private static int number(Matcher item, int group) {
            return Integer.parseInt(item.group(group));
        }

        private static boolean isPerson(Person person) {
            return in(person.kind, 0, 3) && in(person.things, 1, 20) && in(person.feet, 1, 9);
        }

        private static int walk(Shop shop, int i) {
            return shop.row.get(i).feet * (shop.d + shop.row.size() - i);
        }

        private static List<Integer> order(Shop shop) {
            List<Integer> order = new ArrayList<>();
            for (int i = 0; i < shop.row.size(); i++) {
                order.add(i);
            }
            order.sort(Comparator.<Integer>comparingInt(i -> walk(shop, i)).thenComparing(Comparator.reverseOrder()));
            return order;
        }

        /** Seconds of i in THE ROW, those of a list being away. */
        private static int inRow(Shop shop, int i, Iterable<Integer> away) {
            int seconds = 0;
            next:
            for (int ahead = 0; ahead <= i; ahead++) {
                for (int one : away) {
                    if (one == ahead && ahead != i) {
                        continue next;
                    }
                }
                seconds += shop.v * shop.row.get(ahead).things;
            }
            return seconds;
        }

        /** Who is there, in the order in which they are served, with when they are DONE. */
        private static Map<Integer, Integer> across(Shop shop, List<Integer> served) {
            Map<Integer, Integer> ready = new LinkedHashMap<>();
            int free = 0;
            for (int i : served) {
                int begin = walk(shop, i) > free ? walk(shop, i) : free;
                free = begin + shop.u * shop.row.get(i).things;
                ready.put(i, free);
            }
            return ready;
        }

        private static Map<Integer, Integer> decided(Shop shop) {
            List<Integer> went = new ArrayList<>();
            for (int i : order(shop)) {
                List<Integer> with = new ArrayList<>(went);
                with.add(i);
                boolean sooner = across(shop, with).get(i) < inRow(shop, i, went);
                int staying = 0;
                for (int ahead = 0; ahead < i; ahead++) {
                    staying += went.contains(ahead) ? 0 : 1;
                }
                int kind = shop.row.get(i).kind;
                if (kind == 1 && staying > went.size() || kind >= 2 && sooner) {
                    went = with;
                }
            }
            Map<Integer, Integer> ready = across(shop, went);
            for (int i = 0; i < shop.row.size(); i++) {
                if (shop.row.get(i).kind == 3 && ready.containsKey(i) && inRow(shop, i, ready.keySet()) < ready.get(i)) {
                    ready.remove(i);
                }
            }
            return ready;
        }

        private static int[] ready(Shop shop, Map<Integer, Integer> across) {
            int[] ready = new int[shop.row.size()];
            for (int i = 0; i < ready.length; i++) {
                ready[i] = across.containsKey(i) ? across.get(i) : inRow(shop, i, across.keySet());
            }
            return ready;
        }

        private static int[] sent(Shop shop, int set) {
            List<Integer> served = new ArrayList<>(order(shop));
            served.removeIf(i -> (set & 1 << i) == 0);
            return ready(shop, across(shop, served));
        }

        private static int bits(Iterable<Integer> all) {
            int bits = 0;
            for (int i : all) {
                bits += 1 << i;
            }
            return bits;
        }

        private static int overtakers(int[] ready, int i) {
            int bits = 0;
            for (int j = 0; j < ready.length; j++) {
                bits += j > i && ready[j] < ready[i] ? 1 << j : 0;
            }
            return bits;
        }

        private static int overtakings(int[] ready) {
            int twos = 0;
            for (int i = 0; i < ready.length; i++) {
                twos += Integer.bitCount(overtakers(ready, i));
            }
            return twos;
        }

        private static int of(int[] ready, int i) {
            return i == -1 ? Arrays.stream(ready).max().orElse(0) : i == -2 ? Arrays.stream(ready).sum() : ready[i];
        }

        /** The set and as much: aim 0 all DONE, 1 seconds together, 2 those of FAIR sets. */
        private static int[] best(Shop shop, int aim) {
            int[] best = null;
            for (int set = 0; set < 1 << shop.row.size(); set++) {
                int[] ready = sent(shop, set);
                int worth = of(ready, aim == 0 ? -1 : -2);
                if ((aim < 2 || overtakings(ready) == 0) && (best == null || worth < best[1])) {
                    best = new int[] {set, worth};
                }
            }
            return best;
        }

        /** A THING after the other. */
        private static Shop passed(Shop shop, int seconds) {
            List<Person> row = new ArrayList<>(shop.row);
            for (int left = seconds; left >= shop.v && !row.isEmpty(); left -= shop.v) {
                Person head = row.remove(0);
                if (head.things > 1) {
                    row.add(0, new Person(head.kind, head.things - 1, head.feet));
                }
            }
            return new Shop(row, shop.v, shop.u, shop.d);
        }

        private int[] opened(int c) {
            int[] best = null;
            int[] alone = sent(now, 0);
            for (int d = 0; d <= 30; d++) {
                Shop then = passed(now, d);
                int gone = now.row.size() - then.row.size();
                int worth = c * (30 - d) + d * then.row.size() + best(then, 1)[1];
                for (int i = 0; i < gone; i++) {
                    worth += alone[i];
                }
                if (best == null || worth < best[1]) {
                    best = new int[] {d, worth};
                }
            }
            return best;
        }

        private int act(Shop next, boolean rowChanges) {
            past.push(now);
            if (past.size() > 8) {
                past.removeLast();
            }
            now = next;
            if (rowChanges) {
                tape.clear();
            }
            return next.row.size();
        }

        private int kinds(int i) {
            int bits = 0;
            for (int kind = 0; kind < 4; kind++) {
                List<Person> row = new ArrayList<>(now.row);
                row.set(i, new Person(kind, row.get(i).things, row.get(i).feet));
                Map<Integer, Integer> there = decided(new Shop(row, now.v, now.u, now.d));
                boolean all = true;
                for (Entry entry : tape) {
                    all &= there.containsKey(entry.who) == (entry.till == 1);
                }
                bits += all ? 1 << kind : 0;
            }
            return bits;
        }

        private int beaten(int i, int x, int part) {
            long above = 1;
            long below = 1;
            for (int other = 0; other < now.row.size(); other++) {
                if (order(now).indexOf(other) < order(now).indexOf(i)) {
                    above *= 10 - x;
                    below *= 10;
                }
            }
            long g = java.math.BigInteger.valueOf(above).gcd(java.math.BigInteger.valueOf(below)).longValue();
            return (int) ((part == 0 ? above : below) / g);
        }

        private int[] oneRow() {
            int[] ready = new int[now.row.size()];
            int[] free = new int[2];
            for (int i = 0; i < ready.length; i++) {
                int till = free[1] < free[0] ? 1 : 0;
                free[till] += now.row.get(i).things * (till == 0 ? now.v : now.u);
                ready[i] = free[till];
            }
            return ready;
        }

        private int called(int rule) {
            int n = now.row.size();
            List<Integer> set = new ArrayList<>();
            if (rule == 0) {
                for (int i = 1; i < n; i += 2) {
                    set.add(i);
                }
            } else if (rule == 1) {
                for (int i = 1; i <= n / 2 && i < n; i++) {
                    set.add(i);
                }
            } else {
                for (int i = n - n / 2; i < n; i++) {
                    set.add(i);
                }
            }
            return bits(set);
        }

        private int learner() {
            int greatest = NONE;
            for (int u = 1; u <= 9; u++) {
                if (best(new Shop(now.row, now.v, u, now.d), 1)[1] < of(sent(now, 0), -2)) {
                    greatest = u;
                }
            }
            return greatest;
        }

        private int day(int z, int n, int what) {
            Shop shop = now;
            int gone = 0;
            for (int time = 0; time < n; time++) {
                long q = 7919L * z + 6151L * time + 1;
                int draw = (int) (q * q % 65521);
                List<Person> row = new ArrayList<>(shop.row);
                if (row.size() < 8) {
                    row.add(new Person(draw % 4, (draw / 4) % 9 + 1, (draw / 64) % 5 + 1));
                }
                shop = passed(new Shop(row, shop.v, shop.u, shop.d), (draw / 16) % 20);
                gone += row.size() - shop.row.size();
            }
            return what == 0 ? gone : shop.row.size();
        }

        int ask(int[] call) {
            int a = call[1];
            int b = call[2];
            int c = call[3];
            int n = now.row.size();
            int[] fault = new int[1];
            switch (NAMES[call[0]]) {
                case "write":
                    if (!in(a, 32, 126)) {
                        return BAD;
                    }
                    if (text.length() == 200) {
                        return FULL;
                    }
                    text += (char) a;
                    return text.length();
                case "wipe": {
                    int was = text.length();
                    text = "";
                    return was;
                }
                case "fault":
                    read(text, fault);
                    return fault[0];
                case "lay": {
                    Shop next = read(text, fault);
                    if (next == null || next.row.isEmpty()) {
                        return NO;
                    }
                    now = next;
                    tape.clear();
                    past.clear();
                    kept.clear();
                    return next.row.size();
                }
                case "person":
                    if (!isWho(a) || !in(b, 0, 3)) {
                        return BAD;
                    }
                    Person one = now.row.get(a);
                    return List.of(one.kind, one.things, one.feet, walk(now, a)).get(b);
                case "come": {
                    Person person = new Person(a, b, c);
                    if (!isPerson(person)) {
                        return BAD;
                    }
                    if (n == 8) {
                        return FULL;
                    }
                    List<Person> row = new ArrayList<>(now.row);
                    row.add(person);
                    return act(new Shop(row, now.v, now.u, now.d), true);
                }
                case "leave": {
                    if (!isWho(a)) {
                        return BAD;
                    }
                    List<Person> row = new ArrayList<>(now.row);
                    row.remove(a);
                    return act(new Shop(row, now.v, now.u, now.d), true);
                }
                case "pass": return in(a, 1, 200) ? act(passed(now, a), true) : BAD;
                case "slow": {
                    int was = now.u;
                    if (!in(a, 1, 9)) {
                        return BAD;
                    }
                    act(new Shop(now.row, now.v, a, now.d), false);
                    return was;
                }
                case "undo":
                    if (past.isEmpty()) {
                        return NO;
                    }
                    now = past.pop();
                    tape.clear();
                    return past.size();
                case "keep":
                    if (kept.size() == 2) {
                        return FULL;
                    }
                    kept.push(now);
                    return kept.size();
                case "back":
                    if (kept.isEmpty()) {
                        return NO;
                    }
                    now = kept.pop();
                    tape.clear();
                    past.clear();
                    return kept.size();
                case "tape":
                    if (!isWho(a) || !in(b, 0, 1)) {
                        return BAD;
                    }
                    if (tape.size() == 8) {
                        return FULL;
                    }
                    tape.add(new Entry(a, b));
                    return tape.size();
                case "forget": {
                    int was = tape.size();
                    tape.clear();
                    return was;
                }
                case "count":
                    return in(a, 0, 7) ? List.of(n, now.v, now.u, now.d, tape.size(), past.size(), kept.size(),
                        text.length()).get(a) : BAD;
                default: return tell(NAMES[call[0]], a, b, c);
            }
        }

        private int tell(String name, int a, int b, int c) {
            switch (name) {
                case "goes": {
                    List<Integer> there = new ArrayList<>(decided(now).keySet());
                    return !in(a, -1, 7) ? BAD : a == -1 ? bits(there) : a < there.size() ? there.get(a) : NONE;
                }
                case "done": {
                    if (!in(a, -2, now.row.size() - 1) || !in(b, 0, 1)) {
                        return BAD;
                    }
                    return of(b == 1 ? ready(now, decided(now)) : sent(now, 0), a);
                }
                case "overtaken": {
                    int[] ready = ready(now, decided(now));
                    return a == -1 ? overtakings(ready) : isWho(a) ? overtakers(ready, a) : BAD;
                }
                case "best": return in(a, 0, 1) && in(b, 0, 1) ? best(now, a)[b] : BAD;
                case "fair": return in(a, 0, 1) ? best(now, 2)[a] : BAD;
                case "oneRow": return in(a, -2, now.row.size() - 1) ? of(oneRow(), a) : BAD;
                case "called": return in(a, 0, 2) && in(b, 0, 1) ? of(sent(now, called(a)), -1 - b) : BAD;
                case "open": return in(a, 0, 20) && in(b, 0, 1) ? opened(a)[b] : BAD;
                case "kinds": return isWho(a) ? kinds(a) : BAD;
                case "beaten": return isWho(a) && in(b, 0, 10) && in(c, 0, 1) ? beaten(a, b, c) : BAD;
                case "learner": return learner();
                case "day": return in(a, 0, 9999) && in(b, 1, 30) && in(c, 0, 1) ? day(a, b, c) : BAD;
                default: throw new IllegalStateException(name);
            }
        }
    }
}
