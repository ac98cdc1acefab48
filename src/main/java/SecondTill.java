/** A row at the first till, and what becomes of it when a second till opens. */
public final class SecondTill {
    public static final int BAD = -1, NO = -2, FULL = -3, NONE = -4;

    private static final int MOST_PERSONS = 8;
    private static final int MOST_LETTERS = 200;
    private static final int MOST_UNDONE = 8;
    private static final int MOST_KEPT = 2;
    private static final int MOST_TAPED = 8;
    private static final int MOST_NUMBERS = 3;

    private static final int KINDS_IN_ALL = 4;
    private static final int RUNNING = 1, SHARP = 2, STAKING = 3;

    private static final int MOST_THINGS = 20;
    private static final int SLOWEST = 9;
    private static final int FARTHEST = 20;
    private static final int PACE_UNTOLD = 2, STEPS_UNTOLD = 2;

    private static final int LATEST_OPENING = 30;
    private static final int DEAREST_SECOND = 20;
    private static final int LONGEST_PASS = 200;
    private static final int LAST_DAY = 9999, MOST_TIMES = 30;
    private static final int TEN = 10;

    private static final int ALL = -1, TOGETHER = -2;
    private static final int BY_LATEST = 0, BY_SUM = 1, BY_SUM_IF_FAIR = 2;

    private static final String AT_FIRST =
        "p0,6,2;p1,4,3;p2,9,2;p3,2,4;p1,7,1;p2,3,2;s2,3;d3;";

    private final Text text = new Text();
    private final Shop shop = new Shop();
    /** For what would be: whoever uses it fills it anew. */
    private final Shop spare = new Shop();
    private final Pile past = new Pile(MOST_UNDONE);
    private final Pile shelf = new Pile(MOST_KEPT);
    private final Tape roll = new Tape();
    private final Crossing crossing = new Crossing();
    private final Search search = new Search();

    public SecondTill() {
        for (int i = 0; i < AT_FIRST.length(); i++) {
            text.append(AT_FIRST.charAt(i));
        }
        text.readInto(shop);
        text.length = 0;
    }

    // ---- shops

    public int write(int letter) {
        if (!within(letter, 32, 126)) {
            return BAD;
        }
        return text.append((char) letter) ? text.length : FULL;
    }

    public int wipe() {
        int was = text.length;
        text.length = 0;
        return was;
    }

    public int fault() {
        return text.readInto(spare);
    }

    public int lay() {
        if (text.readInto(spare) != NONE || spare.people == 0) {
            return NO;
        }
        shop.becomeLike(spare);
        roll.length = 0;
        past.height = 0;
        shelf.height = 0;
        return shop.people;
    }

    public int person(int i, int what) {
        if (!shop.has(i)) {
            return BAD;
        }
        switch (what) {
            case 0: return shop.kind[i];
            case 1: return shop.things[i];
            case 2: return shop.feet[i];
            case 3: return shop.walk(i);
            default: return BAD;
        }
    }

    // ---- acts

    public int come(int kind, int things, int feet) {
        if (!isPerson(kind, things, feet)) {
            return BAD;
        }
        if (shop.people >= MOST_PERSONS) {
            return FULL;
        }
        beforeRowChanges();
        shop.append(kind, things, feet);
        return shop.people;
    }

    public int leave(int i) {
        if (!shop.has(i)) {
            return BAD;
        }
        beforeRowChanges();
        shop.removeAt(i);
        return shop.people;
    }

    public int pass(int t) {
        if (!within(t, 1, LONGEST_PASS)) {
            return BAD;
        }
        beforeRowChanges();
        shop.letGoBy(t);
        return shop.people;
    }

    public int slow(int u) {
        if (!within(u, 1, SLOWEST)) {
            return BAD;
        }
        int was = shop.secondPace;
        // U is no part of THE ROW, so the TAPE stays as it is.
        past.putDroppingOldest(shop);
        shop.secondPace = u;
        return was;
    }

    public int undo() {
        if (!past.takeInto(shop)) {
            return NO;
        }
        roll.length = 0;
        return past.height;
    }

    private void beforeRowChanges() {
        past.putDroppingOldest(shop);
        roll.length = 0;
    }

    // ---- the second till

    public int goes(int k) {
        if (!within(k, ALL, MOST_PERSONS - 1)) {
            return BAD;
        }
        crossing.lookAt(shop);
        crossing.letDecide();
        return k == ALL ? crossing.away : crossing.servedThere(k);
    }

    public int done(int i, int open) {
        if (!isPersonOrSum(i) || !within(open, 0, 1)) {
            return BAD;
        }
        crossing.lookAt(shop);
        if (open == 1) {
            crossing.letDecide();
        } else {
            crossing.send(0);
        }
        return crossing.readyOf(i);
    }

    public int overtaken(int i) {
        if (i != ALL && !shop.has(i)) {
            return BAD;
        }
        crossing.lookAt(shop);
        crossing.letDecide();
        return i == ALL ? crossing.overtakings() : crossing.overtakersOf(i);
    }

    private boolean isPersonOrSum(int i) {
        return i == ALL || i == TOGETHER || shop.has(i);
    }

    // ---- what would be

    public int best(int what, int part) {
        if (!within(what, 0, 1) || !within(part, 0, 1)) {
            return BAD;
        }
        search.findLeast(shop, what == 0 ? BY_LATEST : BY_SUM);
        return part == 0 ? search.set : search.least;
    }

    public int fair(int part) {
        if (!within(part, 0, 1)) {
            return BAD;
        }
        search.findLeast(shop, BY_SUM_IF_FAIR);
        return part == 0 ? search.set : search.least;
    }

    public int oneRow(int i) {
        if (!isPersonOrSum(i)) {
            return BAD;
        }
        crossing.lookAt(shop);
        crossing.shareOneRow();
        return crossing.readyOf(i);
    }

    public int called(int rule, int what) {
        if (!within(rule, 0, 2) || !within(what, 0, 1)) {
            return BAD;
        }
        crossing.lookAt(shop);
        crossing.send(setByRule(rule, shop.people));
        return what == 0 ? crossing.latest() : crossing.sum();
    }

    private static int setByRule(int rule, int people) {
        int set = 0;
        for (int i = 0; i < people; i++) {
            if (isCalled(rule, i, people)) {
                set |= 1 << i;
            }
        }
        return set;
    }

    private static boolean isCalled(int rule, int i, int people) {
        switch (rule) {
            case 0: return i % 2 == 1;
            case 1: return i >= 1 && i <= people / 2;
            default: return i >= (people + 1) / 2;
        }
    }

    public int open(int c, int what) {
        if (!within(c, 0, DEAREST_SECOND) || !within(what, 0, 1)) {
            return BAD;
        }
        crossing.lookAt(shop);
        crossing.send(0);
        int bestDelay = 0;
        int least = 0;
        for (int delay = 0; delay <= LATEST_OPENING; delay++) {
            int cost = secondsIfOpenedBehind(delay) + c * (LATEST_OPENING - delay);
            if (delay == 0 || cost < least) {
                bestDelay = delay;
                least = cost;
            }
        }
        return what == 0 ? bestDelay : least;
    }

    /** Asked for delays from 0 up; crossing holds when each is DONE at the first TILL. */
    private int secondsIfOpenedBehind(int delay) {
        spare.becomeLike(shop);
        int gone = spare.letGoBy(delay);
        // The search is dear: it is done again only where THE ROW is another one.
        if (delay == 0 || shop.thingsThrough(delay) != shop.thingsThrough(delay - 1)) {
            search.findLeast(spare, BY_SUM);
        }
        return crossing.sumOfHead(gone) + delay * spare.people + search.least;
    }

    // ---- the tape

    public int tape(int i, int till) {
        if (!shop.has(i) || !within(till, 0, 1)) {
            return BAD;
        }
        return roll.append(i, till) ? roll.length : FULL;
    }

    public int forget() {
        int was = roll.length;
        roll.length = 0;
        return was;
    }

    public int kinds(int i) {
        if (!shop.has(i)) {
            return BAD;
        }
        int possible = 0;
        spare.becomeLike(shop);
        for (int kind = 0; kind < KINDS_IN_ALL; kind++) {
            spare.kind[i] = kind;
            crossing.lookAt(spare);
            crossing.letDecide();
            if (roll.agreesWith(crossing.away)) {
                possible |= 1 << kind;
            }
        }
        return possible;
    }

    public int beaten(int i, int x, int part) {
        if (!shop.has(i) || !within(x, 0, TEN) || !within(part, 0, 1)) {
            return BAD;
        }
        crossing.lookAt(shop);
        int divisor = greatestDivisorWithTen(TEN - x);
        int base = part == 0 ? TEN - x : TEN;
        // A power of a ratio in lowest terms is in lowest terms itself.
        return power(base / divisor, crossing.turnOf(i));
    }

    private static int greatestDivisorWithTen(int number) {
        for (int divisor = TEN; divisor > 1; divisor--) {
            if (number % divisor == 0 && TEN % divisor == 0) {
                return divisor;
            }
        }
        return 1;
    }

    private static int power(int base, int times) {
        int product = 1;
        for (int k = 0; k < times; k++) {
            product *= base;
        }
        return product;
    }

    public int learner() {
        crossing.lookAt(shop);
        crossing.send(0);
        int alone = crossing.sum();
        spare.becomeLike(shop);
        for (int pace = SLOWEST; pace >= 1; pace--) {
            spare.secondPace = pace;
            search.findLeast(spare, BY_SUM);
            if (search.least < alone) {
                return pace;
            }
        }
        return NONE;
    }

    public int day(int z, int n, int what) {
        if (!within(z, 0, LAST_DAY) || !within(n, 1, MOST_TIMES) || !within(what, 0, 1)) {
            return BAD;
        }
        spare.becomeLike(shop);
        int gone = 0;
        for (int time = 0; time < n; time++) {
            int draw = drawOf(z, time);
            spare.append(draw % 4, draw / 4 % 9 + 1, draw / 64 % 5 + 1);
            gone += spare.letGoBy(draw / 16 % 20);
        }
        return what == 0 ? gone : spare.people;
    }

    private static int drawOf(int z, int time) {
        long q = 7919L * z + 6151L * time + 1;
        return (int) (q * q % 65521);
    }

    // ---- kept

    public int keep() {
        return shelf.put(shop) ? shelf.height : FULL;
    }

    public int back() {
        if (!shelf.takeInto(shop)) {
            return NO;
        }
        roll.length = 0;
        past.height = 0;
        return shelf.height;
    }

    public int count(int what) {
        switch (what) {
            case 0: return shop.people;
            case 1: return shop.firstPace;
            case 2: return shop.secondPace;
            case 3: return shop.steps;
            case 4: return roll.length;
            case 5: return past.height;
            case 6: return shelf.height;
            case 7: return text.length;
            default: return BAD;
        }
    }

    private static boolean within(int number, int least, int most) {
        return number >= least && number <= most;
    }

    private static boolean isPerson(int kind, int things, int feet) {
        return within(kind, 0, KINDS_IN_ALL - 1)
            && within(things, 1, MOST_THINGS)
            && within(feet, 1, SLOWEST);
    }

    /** THE ROW with both TILLS; V and D change by lay alone, so they may be copied along. */
    private static final class Shop {
        final int[] kind = new int[MOST_PERSONS];
        final int[] things = new int[MOST_PERSONS];
        final int[] feet = new int[MOST_PERSONS];
        int people;
        int firstPace = PACE_UNTOLD;
        int secondPace = PACE_UNTOLD;
        int steps = STEPS_UNTOLD;

        void becomeUntold() {
            people = 0;
            firstPace = PACE_UNTOLD;
            secondPace = PACE_UNTOLD;
            steps = STEPS_UNTOLD;
        }

        void becomeLike(Shop other) {
            people = other.people;
            firstPace = other.firstPace;
            secondPace = other.secondPace;
            steps = other.steps;
            for (int i = 0; i < MOST_PERSONS; i++) {
                kind[i] = other.kind[i];
                things[i] = other.things[i];
                feet[i] = other.feet[i];
            }
        }

        boolean has(int i) {
            return i >= 0 && i < people;
        }

        boolean append(int itsKind, int itsThings, int itsFeet) {
            if (people >= MOST_PERSONS || !isPerson(itsKind, itsThings, itsFeet)) {
                return false;
            }
            kind[people] = itsKind;
            things[people] = itsThings;
            feet[people] = itsFeet;
            people++;
            return true;
        }

        boolean setPaces(int first, int second) {
            if (!within(first, 1, SLOWEST) || !within(second, 1, SLOWEST)) {
                return false;
            }
            firstPace = first;
            secondPace = second;
            return true;
        }

        boolean setSteps(int number) {
            if (!within(number, 0, FARTHEST)) {
                return false;
            }
            steps = number;
            return true;
        }

        void removeAt(int i) {
            if (!has(i)) {
                return;
            }
            for (int k = i; k + 1 < people; k++) {
                kind[k] = kind[k + 1];
                things[k] = things[k + 1];
                feet[k] = feet[k + 1];
            }
            people--;
        }

        /** A THING that is begun is not through. */
        int thingsThrough(int seconds) {
            return firstPace > 0 ? seconds / firstPace : 0;
        }

        /** The first TILL alone serves for so many seconds: how many are DONE and gone. */
        int letGoBy(int seconds) {
            int left = thingsThrough(seconds);
            int gone = 0;
            int present = people;
            for (int k = 0; k < present && things[0] <= left; k++) {
                left -= things[0];
                removeAt(0);
                gone++;
            }
            if (people > 0) {
                things[0] -= left;
            }
            return gone;
        }

        int walk(int i) {
            return has(i) ? feet[i] * (steps + people - i) : 0;
        }
    }

    /** When each of a shop that was looked at is DONE, by who goes across. */
    private static final class Crossing {
        private final int[] kind = new int[MOST_PERSONS];
        /** Seconds that each takes to be there, to be served at the first TILL, at the second. */
        private final int[] walk = new int[MOST_PERSONS];
        private final int[] first = new int[MOST_PERSONS];
        private final int[] second = new int[MOST_PERSONS];
        /** Who is there 0th, 1st, .. */
        private final int[] order = new int[MOST_PERSONS];
        private final int[] ready = new int[MOST_PERSONS];
        private int people;
        /** Those at the second TILL, as bits. */
        int away;

        void lookAt(Shop shop) {
            people = shop.people;
            for (int i = 0; i < people; i++) {
                kind[i] = shop.kind[i];
                walk[i] = shop.walk(i);
                first[i] = shop.firstPace * shop.things[i];
                second[i] = shop.secondPace * shop.things[i];
            }
            lineUp();
        }

        private void lineUp() {
            int placed = 0;
            // From the end of THE ROW, so that of several the last one stays first.
            for (int i = people - 1; i >= 0; i--) {
                int place = placed;
                for (; place > 0 && walk[order[place - 1]] > walk[i]; place--) {
                    order[place] = order[place - 1];
                }
                order[place] = i;
                placed++;
            }
        }

        int turnOf(int i) {
            for (int k = 0; k < people; k++) {
                if (order[k] == i) {
                    return k;
                }
            }
            return 0;
        }

        /** All make up their minds for themselves. */
        void letDecide() {
            away = 0;
            int free = 0;
            for (int k = 0; k < people; k++) {
                int i = order[k];
                int readyThere = Math.max(free, walk[i]) + second[i];
                if (wouldGo(i, readyThere)) {
                    away |= 1 << i;
                    ready[i] = readyThere;
                    free = readyThere;
                }
            }
            letTakePlacesBack();
            serveRow();
        }

        private boolean wouldGo(int i, int readyThere) {
            switch (kind[i]) {
                case RUNNING: return stayingAheadOf(i) > Integer.bitCount(away);
                case SHARP:
                case STAKING: return readyThere < readyInRow(i);
                default: return false;
            }
        }

        /** A boy who holds a place is none of those who stay. */
        private int stayingAheadOf(int i) {
            return i - Integer.bitCount(away & ((1 << i) - 1));
        }

        private int readyInRow(int i) {
            int seconds = first[i];
            for (int ahead = 0; ahead < i; ahead++) {
                if (!isAway(ahead)) {
                    seconds += first[ahead];
                }
            }
            return seconds;
        }

        /** Those behind them at the second TILL gain nothing: what is in ready stays. */
        private void letTakePlacesBack() {
            for (int i = 0; i < people; i++) {
                if (kind[i] == STAKING && isAway(i) && readyInRow(i) < ready[i]) {
                    away &= ~(1 << i);
                }
            }
        }

        /** Those of a set are sent across, whatever their KIND. */
        void send(int set) {
            away = set;
            int free = 0;
            for (int k = 0; k < people; k++) {
                int i = order[k];
                if (isAway(i)) {
                    free = Math.max(free, walk[i]) + second[i];
                    ready[i] = free;
                }
            }
            serveRow();
        }

        private void serveRow() {
            int free = 0;
            for (int i = 0; i < people; i++) {
                if (!isAway(i)) {
                    free += first[i];
                    ready[i] = free;
                }
            }
        }

        void shareOneRow() {
            int firstFree = 0;
            int secondFree = 0;
            for (int i = 0; i < people; i++) {
                if (firstFree <= secondFree) {
                    firstFree += first[i];
                    ready[i] = firstFree;
                } else {
                    secondFree += second[i];
                    ready[i] = secondFree;
                }
            }
        }

        private boolean isAway(int i) {
            return (away >> i & 1) == 1;
        }

        /** Who is the k-th that is DONE at the second TILL. */
        int servedThere(int k) {
            int before = 0;
            for (int turn = 0; turn < people; turn++) {
                if (isAway(order[turn])) {
                    if (before == k) {
                        return order[turn];
                    }
                    before++;
                }
            }
            return NONE;
        }

        int readyOf(int i) {
            if (i == TOGETHER) {
                return sum();
            }
            return i >= 0 && i < people ? ready[i] : latest();
        }

        int latest() {
            int last = 0;
            for (int i = 0; i < people; i++) {
                last = Math.max(last, ready[i]);
            }
            return last;
        }

        int sum() {
            return sumOfHead(people);
        }

        /** Of those who stand ahead of a place. */
        int sumOfHead(int place) {
            int seconds = 0;
            for (int i = 0; i < place && i < people; i++) {
                seconds += ready[i];
            }
            return seconds;
        }

        int overtakersOf(int i) {
            int bits = 0;
            for (int behind = i + 1; behind < people; behind++) {
                if (ready[behind] < ready[i]) {
                    bits |= 1 << behind;
                }
            }
            return bits;
        }

        int overtakings() {
            int twos = 0;
            for (int i = 0; i < people; i++) {
                twos += Integer.bitCount(overtakersOf(i));
            }
            return twos;
        }
    }

    /** Tries every set of those who might be sent across. */
    private static final class Search {
        private final Crossing trial = new Crossing();
        int set;
        int least;

        void findLeast(Shop shop, int aim) {
            trial.lookAt(shop);
            trial.send(0);
            set = 0;
            // Nobody is OVERTAKEN by the empty set, so it is a FAIR one too.
            least = worth(aim);
            int sets = 1 << shop.people;
            for (int next = 1; next < sets; next++) {
                trial.send(next);
                int seconds = worth(aim);
                if (seconds < least && (aim != BY_SUM_IF_FAIR || trial.overtakings() == 0)) {
                    set = next;
                    least = seconds;
                }
            }
        }

        private int worth(int aim) {
            return aim == BY_LATEST ? trial.latest() : trial.sum();
        }
    }

    /** Shops put aside, the last one on top; its places are made once and used again. */
    private static final class Pile {
        private final Shop[] places;
        int height;

        Pile(int most) {
            places = new Shop[Math.max(most, 1)];
            for (int k = 0; k < places.length; k++) {
                places[k] = new Shop();
            }
        }

        boolean put(Shop shop) {
            if (height >= places.length) {
                return false;
            }
            places[height].becomeLike(shop);
            height++;
            return true;
        }

        void putDroppingOldest(Shop shop) {
            if (height >= places.length) {
                Shop oldest = places[0];
                for (int k = 0; k + 1 < places.length; k++) {
                    places[k] = places[k + 1];
                }
                places[places.length - 1] = oldest;
                height = places.length - 1;
            }
            put(shop);
        }

        boolean takeInto(Shop shop) {
            if (height <= 0) {
                return false;
            }
            height--;
            shop.becomeLike(places[height]);
            return true;
        }
    }

    private static final class Tape {
        private final int[] who = new int[MOST_TAPED];
        private final int[] where = new int[MOST_TAPED];
        int length;

        boolean append(int i, int till) {
            if (length >= MOST_TAPED) {
                return false;
            }
            who[length] = i;
            where[length] = till;
            length++;
            return true;
        }

        boolean agreesWith(int away) {
            for (int k = 0; k < length; k++) {
                if ((away >> who[k] & 1) != where[k]) {
                    return false;
                }
            }
            return true;
        }
    }

    private static final class Text {
        private final char[] letters = new char[MOST_LETTERS];
        /** Those of the ITEM that was read last. */
        private final int[] numbers = new int[MOST_NUMBERS];
        int length;

        boolean append(char letter) {
            if (length >= MOST_LETTERS) {
                return false;
            }
            letters[length] = letter;
            length++;
            return true;
        }

        /** The FAULT, or NONE; the shop holds what is told ahead of it. */
        int readInto(Shop shop) {
            shop.becomeUntold();
            int place = 0;
            for (int items = 0; items < MOST_LETTERS && place < length; items++) {
                int behind = endOfItem(place);
                if (behind == place || !tell(letterAt(place), shop)) {
                    return place;
                }
                place = behind;
            }
            return NONE;
        }

        /** The place behind the ITEM, or the same place if there is none. */
        private int endOfItem(int place) {
            int wanted = numbersBehind(letterAt(place));
            if (wanted == 0) {
                return place;
            }
            int at = place + 1;
            for (int k = 0; k < wanted; k++) {
                int end = endOfNumber(at);
                char parting = k + 1 < wanted ? ',' : ';';
                if (end == at || letterAt(end) != parting) {
                    return place;
                }
                numbers[k] = numberBetween(at, end);
                at = end + 1;
            }
            return at;
        }

        private static int numbersBehind(char letter) {
            if (letter == 'p') {
                return 3;
            }
            if (letter == 's') {
                return 2;
            }
            return letter == 'd' ? 1 : 0;
        }

        private int endOfNumber(int place) {
            int end = place;
            while (end < place + 2 && isFigure(letterAt(end))) {
                end++;
            }
            return end;
        }

        private int numberBetween(int place, int end) {
            int number = 0;
            for (int at = place; at < end; at++) {
                number = number * 10 + (letterAt(at) - '0');
            }
            return number;
        }

        private static boolean isFigure(char letter) {
            return letter >= '0' && letter <= '9';
        }

        private char letterAt(int place) {
            return place >= 0 && place < length ? letters[place] : (char) 0;
        }

        /** Whether the shop takes the numbers of an ITEM of that letter; if so, it has them. */
        private boolean tell(char letter, Shop shop) {
            if (letter == 'p') {
                return shop.append(numbers[0], numbers[1], numbers[2]);
            }
            if (letter == 's') {
                return shop.setPaces(numbers[0], numbers[1]);
            }
            return letter == 'd' && shop.setSteps(numbers[0]);
        }
    }
}
