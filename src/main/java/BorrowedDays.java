import java.util.Arrays;

/** Villages that lend each other days; DOC.md tells what every public call promises. */
public final class BorrowedDays {
    public static final int NONE = -1;
    public static final int NOTHING = -1000000;

    private static final int MOST_VILLAGES = 8;
    private static final int FIRST_VILLAGES = 4;
    private static final int DAYS = 28;
    private static final int MARKS = DAYS + 1;
    private static final int WEEK = 7;
    private static final int COPIES = MOST_VILLAGES * DAYS;
    private static final int MOST_PRICE = 99;
    private static final int FIRST_PRICE = 10;
    private static final int MOST_PAY = 99;
    private static final int MOST_COST = 99;
    /** Above what all that can go for Easter may cost together. */
    private static final int NO_COST = 1000000;
    private static final int MOST_ROUNDS = 50;
    private static final int MOST_GOING = 8;
    private static final int MOST_DEEDS = 10;
    private static final int MOST_UNDONE = 32;
    private static final int MOST_SEED = 1000000;
    private static final int MOST_YEAR = 60;
    private static final int MOST_IMAGES = 2;

    private static final int BAD_NUMBER = -1;
    private static final int UNKNOWN = -2;
    private static final int AGAINST = -3;
    private static final int NO_ROOM = -5;
    private static final int BAD_TEXT = -6;
    private static final int REASONS = 5;

    private static final int MOST_BYTES = 400;
    private static final int FED_BYTES = 20;
    private static final int MOST_LAWS = 6;
    private static final int MOST_CLAUSES = 12;
    private static final int MOST_PARTS = 50;
    private static final int MOST_BRACKETS = 8;
    private static final int MOST_NUMBER = 1000;
    private static final long MOST_SUM = 1000000000L;
    /** Above two numbers of code for each byte of the tape, which no law can need. */
    private static final int CODE_ROOM = 1024;
    /** Above the parts of a law, each of which lays one number on the stack. */
    private static final int STACK_ROOM = 64;

    private static final int HEAD_PAYS = 0;
    private static final int HEAD_COSTS = 1;
    private static final int HEAD_BARS = 2;
    private static final int HEAD_WANTS = 3;
    private static final int HEAD_SELLS = 4;
    private static final int CLAUSE_START = 2;

    private static final int WORD_OWNER = 0;
    private static final int WORD_HOLDER = 1;
    private static final int WORD_TO = 2;
    private static final int WORD_DAY = 3;
    private static final int WORD_WEEKDAY = 4;
    private static final int WORD_RAIN = 5;
    private static final int WORD_HELD = 6;
    private static final int WORD_PRICE = 7;
    private static final int WORDS = 8;

    /** Code from 0 on is a number itself; the words stand from -1 down, the rest below them. */
    private static final int CODE_ADD = -10;
    private static final int CODE_TAKE = -11;
    private static final int CODE_TIMES = -12;
    private static final int CODE_SHARE = -13;
    private static final int CODE_LESS = -14;
    private static final int CODE_MORE = -15;
    private static final int CODE_SAME = -16;
    private static final int CODE_NOT = -17;
    private static final int CODE_SKIP_IF_NOT = -18;
    private static final int CODE_SKIP_IF_SO = -19;
    private static final int CODE_ONLY_IF = -20;

    private static final int KIND_END = 0;
    private static final int KIND_LETTERS = 1;
    private static final int KIND_DIGITS = 2;
    private static final int KIND_SIGN = 3;

    private final State now = new State();
    private final State[] images = new State[MOST_IMAGES];
    private final boolean[] imageKept = new boolean[MOST_IMAGES];
    private final Reader reader = new Reader();
    private final Tape tape = reader.text;
    private final Judge judge = new Judge();
    private final Calendar calendar = new Calendar();
    private final Feast feast = new Feast();
    private final Circle circle = new Circle();
    private final Paper paper = new Paper();
    private final int[] refused = new int[REASONS];
    private int latestRefusal = 0;
    private int latestFog = 0;
    private int latestFault = NONE;
    private int restPrice = FIRST_PRICE;

    public BorrowedDays() {
        for (int k = 0; k < MOST_IMAGES; k++) {
            images[k] = new State();
        }
    }

    // ---- terms, rain, the tape ----

    public int terms(int what, int value) {
        if (what == 0 && value >= 1 && value <= MOST_VILLAGES) {
            int was = now.villages;
            now.resettle(value);
            return accept(was);
        }
        if (what == 1 && value >= 1 && value <= MOST_PRICE) {
            int was = now.firstPrice;
            now.firstPrice = value;
            return accept(was);
        }
        return refuse(BAD_NUMBER);
    }

    public int rain(int day, int is) {
        if (!isDay(day) || is < 0 || is > 1) {
            return refuse(BAD_NUMBER);
        }
        int was = now.rainy[day];
        now.rainy[day] = is;
        return accept(was);
    }

    public int feed(int a, int b, int c, int d, int e) {
        if (tape.length + FED_BYTES > MOST_BYTES) {
            return NONE;
        }
        tape.put(a);
        tape.put(b);
        tape.put(c);
        tape.put(d);
        tape.put(e);
        return tape.length;
    }

    public int end(int n) {
        if (n < 0 || n > tape.length) {
            return NONE;
        }
        tape.length = n;
        return n;
    }

    public int row() {
        if (tape.length == 0) {
            return refuse(BAD_TEXT);
        }
        int became = 0;
        int foggy = 0;
        for (int i = 0; i < tape.length; i++) {
            int day = tape.bytes[i];
            if (!isDay(day)) {
                foggy++;
            } else if (now.rainy[day] == 0) {
                now.rainy[day] = 1;
                became++;
            }
        }
        tape.length = 0;
        latestFog = foggy;
        return accept(became);
    }

    public int fog() {
        return latestFog;
    }

    // ---- laws ----

    public int law() {
        if (now.lawCount >= MOST_LAWS) {
            tape.length = 0;
            return refuse(NO_ROOM);
        }
        boolean good = reader.read();
        tape.length = 0;
        if (!good) {
            latestFault = reader.start;
            return refuse(BAD_TEXT);
        }
        latestFault = NONE;
        now.laws[now.lawCount] = new Law(Arrays.copyOf(reader.code, reader.size));
        now.lawCount++;
        return accept(now.lawCount - 1);
    }

    public int fault() {
        return latestFault;
    }

    public int force(int law) {
        if (law < NONE || law >= now.lawCount) {
            return refuse(UNKNOWN);
        }
        int was = now.inForce;
        now.inForce = law;
        return accept(was);
    }

    // ---- copies and loans ----

    public int of(int owner, int day, int to, int what) {
        if (!isVillage(owner) || !isDay(day)) {
            return NOTHING;
        }
        if (what == 0) {
            return now.holder[owner * DAYS + day];
        }
        if (what == 1 && isVillage(to)) {
            return isBarred(owner * DAYS + day, to) ? 1 : 0;
        }
        if (what == 2) {
            return judge.payOf(now, owner, day);
        }
        return NOTHING;
    }

    public int lend(int owner, int day, int to) {
        if (!isDay(day)) {
            return refuse(BAD_NUMBER);
        }
        if (!isVillage(owner) || !isVillage(to)) {
            return refuse(UNKNOWN);
        }
        int holder = now.holder[owner * DAYS + day];
        if (holder == to || isBarred(owner * DAYS + day, to)) {
            return refuse(AGAINST);
        }
        now.move(owner * DAYS + day, to);
        return accept(holder);
    }

    public int home(int owner, int day) {
        if (!isDay(day)) {
            return refuse(BAD_NUMBER);
        }
        if (!isVillage(owner)) {
            return refuse(UNKNOWN);
        }
        int holder = now.holder[owner * DAYS + day];
        if (holder == owner) {
            return refuse(AGAINST);
        }
        now.move(owner * DAYS + day, owner);
        return accept(holder);
    }

    public int undo() {
        if (now.loans.size == 0) {
            return refuse(AGAINST);
        }
        return accept(now.moveBack());
    }

    // ---- rows of days ----

    public int live(int village, int dawn, int what) {
        if (!isVillage(village)) {
            return NONE;
        }
        calendar.drawUp(now);
        int all = calendar.total(village);
        if (dawn == NONE) {
            return all;
        }
        if (dawn < 0 || dawn >= all || what < 0 || what > 1) {
            return NONE;
        }
        int day = calendar.dayAt(village, dawn);
        if (what == 0) {
            return day;
        }
        return now.ownerAt(village, day, dawn - calendar.before(village, day));
    }

    public int when(int village, int day, int what) {
        if (!isVillage(village) || !isDay(day) || what < 0 || what > 1) {
            return NONE;
        }
        calendar.drawUp(now);
        int times = calendar.times(village, day);
        if (what == 1) {
            return times;
        }
        return times > 0 ? calendar.before(village, day) : NONE;
    }

    public int age(int village, int day, int dawn) {
        if (!isVillage(village) || !isDay(day) || dawn < 0 || dawn > COPIES) {
            return NONE;
        }
        calendar.drawUp(now);
        int lived = Math.max(0, dawn - calendar.before(village, day));
        return Math.min(lived, calendar.times(village, day));
    }

    public int wages(int village, int dawn) {
        if (!isVillage(village) || dawn < 0 || dawn > COPIES) {
            return NOTHING;
        }
        int together = 0;
        int lived = 0;
        for (int day = 0; day < DAYS; day++) {
            for (int owner = 0; owner < now.villages && lived < dawn; owner++) {
                if (now.holder[owner * DAYS + day] == village) {
                    together += judge.payOf(now, owner, day);
                    lived++;
                }
            }
        }
        return together;
    }

    public int gap(int village) {
        if (!isVillage(village)) {
            return NONE;
        }
        calendar.drawUp(now);
        int most = 0;
        int missed = 0;
        for (int day = 0; day < DAYS; day++) {
            missed = calendar.times(village, day) == 0 ? missed + 1 : 0;
            most = Math.max(most, missed);
        }
        return most;
    }

    // ---- debts ----

    public int owes(int village, int other) {
        if (!isVillage(village) || !isVillage(other) || village == other) {
            return NONE;
        }
        return now.debt(village, other);
    }

    public int away() {
        int gone = 0;
        for (int owner = 0; owner < now.villages; owner++) {
            gone += awayOf(now.holder, owner);
        }
        return gone;
    }

    public int ring(int i) {
        circle.find(now);
        if (i == NONE) {
            return circle.size > 0 ? circle.size : NONE;
        }
        return i >= 0 && i < circle.size ? circle.members[i] : NONE;
    }

    // ---- Easter ----

    public int easter(int day, int what) {
        if (what < 0 || what > 2 || !isFeast(day)) {
            return NONE;
        }
        if (what > 0) {
            return what == 1 ? feast.dawn : feast.size;
        }
        feast.layRoads(now, calendar, judge);
        feast.weigh();
        return feast.leastCost();
    }

    public int trade(int day, int i, int what) {
        if (what < 0 || what > 1 || !isFeast(day) || i < 0 || i >= feast.size) {
            return NONE;
        }
        if (what == 0) {
            return feast.givers[i];
        }
        feast.layRoads(now, calendar, judge);
        feast.weigh();
        return feast.takerOf(i);
    }

    public int chain(int from, int to) {
        if (!isVillage(from) || !isVillage(to)) {
            return NONE;
        }
        calendar.drawUp(now);
        feast.layRoads(now, calendar, judge);
        return feast.roads[from * MOST_VILLAGES + to];
    }

    // ---- bad days and prices ----

    public int last(int owner, int day, int what) {
        if (!isVillage(owner) || !isDay(day) || what < 0 || what > 1) {
            return NONE;
        }
        int holder = now.holder[owner * DAYS + day];
        int seen = 1 << holder;
        int went = 0;
        for (int i = 0; i < MOST_VILLAGES; i++) {
            int next = nextTaker(owner * DAYS + day, holder, seen);
            if (next == NONE) {
                break;
            }
            holder = next;
            seen |= 1 << next;
            went++;
        }
        return what == 0 ? holder : went;
    }

    public int price(int weekday) {
        if (weekday < NONE || weekday >= WEEK) {
            return NONE;
        }
        calendar.drawUp(now);
        if (weekday != NONE) {
            settle(weekday);
            return restPrice;
        }
        int rounds = 0;
        for (int w = 0; w < WEEK; w++) {
            rounds = Math.max(rounds, settle(w));
        }
        return rounds;
    }

    // ---- deeds ----

    public int deed(int village, int dawn, int day) {
        if (dawn < 0 || dawn >= COPIES || !isDay(day)) {
            return refuse(BAD_NUMBER);
        }
        if (!isVillage(village)) {
            return refuse(UNKNOWN);
        }
        if (now.deeds.size >= MOST_DEEDS) {
            return refuse(NO_ROOM);
        }
        now.deeds.add(village, dawn, day);
        return accept(now.deeds.size);
    }

    public int burn(int deed) {
        if (deed < 0 || deed >= now.deeds.size) {
            return refuse(UNKNOWN);
        }
        now.deeds.drop(deed);
        return accept(now.deeds.size);
    }

    public int forged(int i) {
        calendar.drawUp(now);
        int found = 0;
        for (int k = 0; k < now.deeds.size; k++) {
            if (!now.deeds.isSo(k, calendar, NONE, NONE, NONE)) {
                if (found == i) {
                    return k;
                }
                found++;
            }
        }
        return i == NONE ? found : NONE;
    }

    public int explains(int what) {
        if (what < 0 || what > 3) {
            return NONE;
        }
        calendar.drawUp(now);
        int found = 0;
        int first = NONE;
        for (int copy = 0; copy < now.villages * DAYS; copy++) {
            for (int to = 0; to < now.villages; to++) {
                if (rights(copy, to)) {
                    first = first == NONE ? copy * MOST_VILLAGES + to : first;
                    found++;
                }
            }
        }
        if (what == 0) {
            return found;
        }
        return first == NONE ? NONE : loanPart(first, what);
    }

    // ---- years and images ----

    public int year(int seed, int n) {
        if (seed < 0 || seed > MOST_SEED || n < 1 || n > MOST_YEAR) {
            return refuse(BAD_NUMBER);
        }
        paper.begin(now, seed);
        int went = 0;
        for (int i = 0; i < n; i++) {
            if (paper.drawLoan(now, judge)) {
                went++;
            }
        }
        return accept(went);
    }

    /** The year has its own villages: those of today do not matter. */
    public int drawn(int village, int what) {
        if (village < 0 || village >= paper.villages || what < 0 || what > 1) {
            return NONE;
        }
        return what == 0 ? paper.held[village] : awayOf(paper.holder, village);
    }

    public int image(int k) {
        if (!isImage(k)) {
            return refuse(BAD_NUMBER);
        }
        images[k].become(now);
        imageKept[k] = true;
        return accept(0);
    }

    public int back(int k) {
        if (!isImage(k)) {
            return refuse(BAD_NUMBER);
        }
        if (!imageKept[k]) {
            return refuse(UNKNOWN);
        }
        now.become(images[k]);
        return accept(0);
    }

    // ---- what is told of the whole ----

    public int count(int what) {
        switch (what) {
            case 0:
                return now.villages;
            case 1:
                return now.rainyDays();
            case 2:
                return now.lawCount;
            case 3:
                return now.deeds.size;
            case 4:
                return now.loans.size;
            case 5:
                return tape.length;
            case 11:
                return now.inForce;
            case 12:
                return now.firstPrice;
            default:
                return what >= 6 && what < 6 + REASONS ? refused[what - 6] : NONE;
        }
    }

    public int status() {
        return latestRefusal;
    }

    // ---- helpers of the calls ----

    private int accept(int answer) {
        latestRefusal = 0;
        return answer;
    }

    private int refuse(int why) {
        latestRefusal = why;
        int place = reasonPlace(why);
        if (place >= 0 && place < REASONS) {
            refused[place]++;
        }
        return why;
    }

    private static int reasonPlace(int why) {
        switch (why) {
            case BAD_NUMBER:
                return 0;
            case UNKNOWN:
                return 1;
            case AGAINST:
                return 2;
            case NO_ROOM:
                return 3;
            case BAD_TEXT:
                return 4;
            default:
                return NONE;
        }
    }

    private boolean isVillage(int village) {
        return village >= 0 && village < now.villages;
    }

    private static boolean isDay(int day) {
        return day >= 0 && day < DAYS;
    }

    private static boolean isImage(int k) {
        return k >= 0 && k < MOST_IMAGES;
    }

    private boolean isBarred(int copy, int to) {
        return judge.forbids(now, copy, now.holder[copy], to, now.held(to));
    }

    /** What a village holds is as it stands: none that is asked here ever held this copy. */
    private int nextTaker(int copy, int holder, int seen) {
        for (int to = 0; to < now.villages; to++) {
            boolean fresh = (seen >> to & 1) == 0;
            if (fresh && !judge.forbids(now, copy, holder, to, now.held(to))) {
                return to;
            }
        }
        return NONE;
    }

    private static int awayOf(int[] holders, int owner) {
        int gone = 0;
        for (int day = 0; day < DAYS; day++) {
            if (holders[owner * DAYS + day] != owner) {
                gone++;
            }
        }
        return gone;
    }

    private boolean isFeast(int day) {
        if (!isDay(day)) {
            return false;
        }
        calendar.drawUp(now);
        return feast.invite(now, calendar, day);
    }

    /**
     * The rounds till a weekday's price rests. No weekday's price is told another one's, and a
     * price that a round left alone is left alone by all later ones: so each can be run alone.
     */
    private int settle(int weekday) {
        restPrice = now.firstPrice;
        for (int round = 1; round <= MOST_ROUNDS; round++) {
            int lean = judge.lean(now, calendar, weekday, restPrice);
            int next = Math.max(1, Math.min(MOST_PRICE, restPrice + lean));
            if (next == restPrice) {
                return round;
            }
            restPrice = next;
        }
        return MOST_ROUNDS + 1;
    }

    private boolean rights(int copy, int to) {
        int from = now.holder[copy];
        if (from == to) {
            return false;
        }
        for (int k = 0; k < now.deeds.size; k++) {
            if (!now.deeds.isSo(k, calendar, copy % DAYS, from, to)) {
                return false;
            }
        }
        return true;
    }

    private static int loanPart(int loan, int what) {
        int copy = loan / MOST_VILLAGES;
        if (what == 1) {
            return copy / DAYS;
        }
        return what == 2 ? copy % DAYS : loan % MOST_VILLAGES;
    }

    /** All that an image keeps. The copies of villages that are not there are always at home. */
    private static final class State {
        int villages = FIRST_VILLAGES;
        int firstPrice = FIRST_PRICE;
        int lawCount = 0;
        int inForce = NONE;
        final int[] holder = new int[COPIES];
        final int[] rainy = new int[DAYS];
        final Law[] laws = new Law[MOST_LAWS];
        final Loans loans = new Loans();
        final Deeds deeds = new Deeds();

        State() {
            for (int copy = 0; copy < COPIES; copy++) {
                holder[copy] = copy / DAYS;
            }
        }

        void become(State other) {
            villages = other.villages;
            firstPrice = other.firstPrice;
            lawCount = other.lawCount;
            inForce = other.inForce;
            System.arraycopy(other.holder, 0, holder, 0, COPIES);
            System.arraycopy(other.rainy, 0, rainy, 0, DAYS);
            for (int i = 0; i < MOST_LAWS; i++) {
                laws[i] = other.laws[i];
            }
            loans.become(other.loans);
            deeds.become(other.deeds);
        }

        /** The same number again brings and takes no village, but deeds and loans are none then, too. */
        void resettle(int value) {
            for (int copy = 0; copy < COPIES; copy++) {
                int owner = copy / DAYS;
                if (owner >= value || holder[copy] >= value) {
                    holder[copy] = owner;
                }
            }
            villages = value;
            loans.size = 0;
            deeds.size = 0;
        }

        void move(int copy, int to) {
            loans.push(copy, holder[copy]);
            holder[copy] = to;
        }

        int moveBack() {
            loans.pop();
            int copy = loans.copies[loans.top];
            holder[copy] = loans.holders[loans.top];
            return copy / DAYS;
        }

        int held(int village) {
            int all = 0;
            for (int copy = 0; copy < villages * DAYS; copy++) {
                if (holder[copy] == village) {
                    all++;
                }
            }
            return all;
        }

        int debt(int village, int other) {
            int days = 0;
            for (int day = 0; day < DAYS; day++) {
                if (holder[other * DAYS + day] == village) {
                    days++;
                }
            }
            return days;
        }

        int ownerAt(int village, int day, int place) {
            int passed = 0;
            for (int owner = 0; owner < villages; owner++) {
                if (holder[owner * DAYS + day] == village) {
                    if (passed == place) {
                        return owner;
                    }
                    passed++;
                }
            }
            return NONE;
        }

        int rainyDays() {
            int all = 0;
            for (int day = 0; day < DAYS; day++) {
                all += rainy[day];
            }
            return all;
        }

        Law lawInForce() {
            return inForce >= 0 && inForce < lawCount ? laws[inForce] : null;
        }
    }

    /** The latest moves that can be undone; the oldest one makes room for a new one. */
    private static final class Loans {
        final int[] copies = new int[MOST_UNDONE];
        final int[] holders = new int[MOST_UNDONE];
        int top = 0;
        int size = 0;

        void push(int copy, int holder) {
            copies[top] = copy;
            holders[top] = holder;
            top = (top + 1) % MOST_UNDONE;
            size = Math.min(size + 1, MOST_UNDONE);
        }

        void pop() {
            top = (top + MOST_UNDONE - 1) % MOST_UNDONE;
            size = Math.max(size - 1, 0);
        }

        void become(Loans other) {
            System.arraycopy(other.copies, 0, copies, 0, MOST_UNDONE);
            System.arraycopy(other.holders, 0, holders, 0, MOST_UNDONE);
            top = other.top;
            size = other.size;
        }
    }

    private static final class Deeds {
        final int[] villages = new int[MOST_DEEDS];
        final int[] dawns = new int[MOST_DEEDS];
        final int[] days = new int[MOST_DEEDS];
        int size = 0;

        void add(int village, int dawn, int day) {
            villages[size] = village;
            dawns[size] = dawn;
            days[size] = day;
            size++;
        }

        void drop(int place) {
            for (int i = place; i + 1 < size; i++) {
                villages[i] = villages[i + 1];
                dawns[i] = dawns[i + 1];
                days[i] = days[i + 1];
            }
            size--;
        }

        /** Whether a deed is so, if a copy of the day moved were with to and not with from. */
        boolean isSo(int k, Calendar calendar, int moved, int from, int to) {
            int village = villages[k];
            int day = days[k];
            int shift = village == to ? 1 : village == from ? -1 : 0;
            int first = calendar.before(village, day) + (moved < day ? shift : 0);
            int behind = calendar.before(village, day + 1) + (moved <= day ? shift : 0);
            return first <= dawns[k] && dawns[k] < behind;
        }

        void become(Deeds other) {
            System.arraycopy(other.villages, 0, villages, 0, MOST_DEEDS);
            System.arraycopy(other.dawns, 0, dawns, 0, MOST_DEEDS);
            System.arraycopy(other.days, 0, days, 0, MOST_DEEDS);
            size = other.size;
        }
    }

    /** How many copies each village lives through ahead of each day: a row's shape. */
    private static final class Calendar {
        final int[] ahead = new int[MOST_VILLAGES * MARKS];

        void drawUp(State state) {
            Arrays.fill(ahead, 0);
            for (int copy = 0; copy < state.villages * DAYS; copy++) {
                ahead[state.holder[copy] * MARKS + copy % DAYS + 1]++;
            }
            for (int village = 0; village < MOST_VILLAGES; village++) {
                for (int day = 0; day < DAYS; day++) {
                    ahead[village * MARKS + day + 1] += ahead[village * MARKS + day];
                }
            }
        }

        int before(int village, int day) {
            return ahead[village * MARKS + day];
        }

        int times(int village, int day) {
            return before(village, day + 1) - before(village, day);
        }

        int total(int village) {
            return before(village, DAYS);
        }

        int dayAt(int village, int dawn) {
            int day = 0;
            while (day < DAYS - 1 && before(village, day + 1) <= dawn) {
                day++;
            }
            return day;
        }
    }

    private static final class Tape {
        final int[] bytes = new int[MOST_BYTES];
        int length = 0;

        void put(int four) {
            for (int shift = 24; shift >= 0 && length < MOST_BYTES; shift -= 8) {
                bytes[length] = four >>> shift & 255;
                length++;
            }
        }
    }

    /** A law as code: for each clause its head, where the next one starts, what is to be run. */
    private static final class Law {
        final int[] code;

        Law(int[] code) {
            this.code = code;
        }
    }

    /** Reads a text into code. Where a reading method says no, the token at start is the fault. */
    private static final class Reader {
        final int[] code = new int[CODE_ROOM];
        final Tape text = new Tape();
        int size = 0;
        int start = 0;
        private int behind = 0;
        private int kind = KIND_END;
        private int parts = 0;

        boolean read() {
            size = 0;
            behind = 0;
            parts = 0;
            step();
            for (int i = 0; i < MOST_CLAUSES; i++) {
                if (!readClause()) {
                    return false;
                }
                if (kind == KIND_END) {
                    return true;
                }
                if (!isSign(';')) {
                    return false;
                }
                step();
            }
            return false;
        }

        private void step() {
            start = behind;
            while (start < text.length && text.bytes[start] == ' ') {
                start++;
            }
            behind = start;
            kind = kindAt(start);
            if (kind == KIND_END) {
                return;
            }
            behind++;
            while (kind != KIND_SIGN && behind < text.length && kindAt(behind) == kind) {
                behind++;
            }
        }

        private int kindAt(int place) {
            if (place >= text.length) {
                return KIND_END;
            }
            int sign = text.bytes[place];
            if (sign >= 'a' && sign <= 'z') {
                return KIND_LETTERS;
            }
            return sign >= '0' && sign <= '9' ? KIND_DIGITS : KIND_SIGN;
        }

        private boolean isSign(char sign) {
            return kind == KIND_SIGN && text.bytes[start] == sign;
        }

        private boolean isWord(String word) {
            if (kind != KIND_LETTERS || behind - start != word.length()) {
                return false;
            }
            for (int i = 0; i < word.length(); i++) {
                if (text.bytes[start + i] != word.charAt(i)) {
                    return false;
                }
            }
            return true;
        }

        private void put(int number) {
            if (size < CODE_ROOM) {
                code[size] = number;
                size++;
            }
        }

        /** Leaves a number open in the code, for a place that is told later. */
        private int putOpen() {
            put(0);
            return size - 1;
        }

        private void closeHere(int open) {
            if (open >= 0 && open < CODE_ROOM) {
                code[open] = size;
            }
        }

        private boolean readClause() {
            int head = headHere();
            if (head == NONE) {
                return false;
            }
            step();
            put(head);
            int open = putOpen();
            if ((head == HEAD_PAYS || head == HEAD_COSTS) && !readSum(0)) {
                return false;
            }
            if (isWord("if")) {
                step();
                if (!readTest(0)) {
                    return false;
                }
                put(CODE_ONLY_IF);
            }
            closeHere(open);
            return true;
        }

        private int headHere() {
            if (isWord("pays")) {
                return HEAD_PAYS;
            }
            if (isWord("costs")) {
                return HEAD_COSTS;
            }
            if (isWord("bars")) {
                return HEAD_BARS;
            }
            if (isWord("wants")) {
                return HEAD_WANTS;
            }
            return isWord("sells") ? HEAD_SELLS : NONE;
        }

        private boolean readTest(int depth) {
            if (!readBoth(depth)) {
                return false;
            }
            for (int i = 0; i < MOST_BYTES && isWord("or"); i++) {
                step();
                put(CODE_SKIP_IF_SO);
                int open = putOpen();
                if (!readBoth(depth)) {
                    return false;
                }
                closeHere(open);
            }
            return true;
        }

        private boolean readBoth(int depth) {
            if (!readPlain(depth)) {
                return false;
            }
            for (int i = 0; i < MOST_BYTES && isWord("and"); i++) {
                step();
                put(CODE_SKIP_IF_NOT);
                int open = putOpen();
                if (!readPlain(depth)) {
                    return false;
                }
                closeHere(open);
            }
            return true;
        }

        /** A row of "not" is no recursion here: a tape of them would go too deep. */
        private boolean readPlain(int depth) {
            boolean turned = false;
            for (int i = 0; i < MOST_BYTES && isWord("not"); i++) {
                step();
                turned = !turned;
            }
            boolean bracket = isSign('(');
            if (bracket ? !readBracketTest(depth) : !readSum(depth)) {
                return false;
            }
            if (!bracket) {
                int sign = comparisonHere();
                if (sign == 0) {
                    return false;
                }
                step();
                if (!readSum(depth)) {
                    return false;
                }
                put(sign);
            }
            if (turned) {
                put(CODE_NOT);
            }
            return true;
        }

        private boolean readBracketTest(int depth) {
            if (depth >= MOST_BRACKETS) {
                return false;
            }
            step();
            if (!readTest(depth + 1) || !isSign(')')) {
                return false;
            }
            step();
            return true;
        }

        private int comparisonHere() {
            if (isSign('<')) {
                return CODE_LESS;
            }
            if (isSign('>')) {
                return CODE_MORE;
            }
            return isSign('=') ? CODE_SAME : 0;
        }

        private boolean readSum(int depth) {
            if (!readTerm(depth)) {
                return false;
            }
            for (int i = 0; i < MOST_BYTES && (isSign('+') || isSign('-')); i++) {
                int sign = isSign('+') ? CODE_ADD : CODE_TAKE;
                step();
                if (!readTerm(depth)) {
                    return false;
                }
                put(sign);
            }
            return true;
        }

        private boolean readTerm(int depth) {
            if (!readPart(depth)) {
                return false;
            }
            for (int i = 0; i < MOST_BYTES && (isSign('*') || isSign('/')); i++) {
                int sign = isSign('*') ? CODE_TIMES : CODE_SHARE;
                step();
                if (!readPart(depth)) {
                    return false;
                }
                put(sign);
            }
            return true;
        }

        private boolean readPart(int depth) {
            if (isSign('[')) {
                return readBracketSum(depth);
            }
            int number = kind == KIND_DIGITS ? numberHere() : wordHere();
            boolean good = kind == KIND_DIGITS ? number <= MOST_NUMBER : number != NONE;
            if (!good || parts >= MOST_PARTS) {
                return false;
            }
            put(kind == KIND_DIGITS ? number : -1 - number);
            parts++;
            step();
            return true;
        }

        private boolean readBracketSum(int depth) {
            if (depth >= MOST_BRACKETS) {
                return false;
            }
            step();
            if (!readSum(depth + 1) || !isSign(']')) {
                return false;
            }
            step();
            return true;
        }

        /** Stays just above the most a number may be, however long its row of digits is. */
        private int numberHere() {
            int number = 0;
            for (int i = start; i < behind; i++) {
                number = Math.min(number * 10 + text.bytes[i] - '0', MOST_NUMBER + 1);
            }
            return number;
        }

        private int wordHere() {
            if (isWord("owner")) {
                return WORD_OWNER;
            }
            if (isWord("holder")) {
                return WORD_HOLDER;
            }
            if (isWord("to")) {
                return WORD_TO;
            }
            if (isWord("day")) {
                return WORD_DAY;
            }
            if (isWord("weekday")) {
                return WORD_WEEKDAY;
            }
            if (isWord("rain")) {
                return WORD_RAIN;
            }
            if (isWord("held")) {
                return WORD_HELD;
            }
            return isWord("price") ? WORD_PRICE : NONE;
        }
    }

    /** Says what the law in force tells. */
    private static final class Judge {
        private final int[] words = new int[WORDS];
        private final int[] stack = new int[STACK_ROOM];
        private int top = 0;
        private int told = 0;

        int payOf(State state, int owner, int day) {
            blank();
            setCopy(state, owner * DAYS + day);
            words[WORD_HOLDER] = state.holder[owner * DAYS + day];
            if (!tells(state, HEAD_PAYS)) {
                return 1;
            }
            return Math.max(-MOST_PAY, Math.min(MOST_PAY, told));
        }

        int costOf(State state, int holder, int to, int held) {
            blank();
            words[WORD_HOLDER] = holder;
            setTaker(to, held);
            if (!tells(state, HEAD_COSTS)) {
                return 1;
            }
            return Math.max(0, Math.min(MOST_COST, told));
        }

        boolean forbids(State state, int copy, int holder, int to, int held) {
            blank();
            setCopy(state, copy);
            words[WORD_HOLDER] = holder;
            setTaker(to, held);
            return tells(state, HEAD_BARS);
        }

        /** Whether more villages want a weekday (1), more sell it (-1), or neither (0). */
        int lean(State state, Calendar calendar, int weekday, int price) {
            int more = 0;
            for (int village = 0; village < state.villages; village++) {
                blank();
                words[WORD_WEEKDAY] = weekday;
                words[WORD_PRICE] = price;
                setTaker(village, calendar.total(village));
                more += tells(state, HEAD_WANTS) ? 1 : 0;
                setTaker(NONE, 0);
                words[WORD_HOLDER] = village;
                more -= tells(state, HEAD_SELLS) ? 1 : 0;
            }
            return more > 0 ? 1 : more < 0 ? -1 : 0;
        }

        private void blank() {
            Arrays.fill(words, NONE);
            words[WORD_HELD] = 0;
        }

        private void setCopy(State state, int copy) {
            int day = copy % DAYS;
            words[WORD_OWNER] = copy / DAYS;
            words[WORD_DAY] = day;
            words[WORD_WEEKDAY] = day % WEEK;
            words[WORD_RAIN] = state.rainy[day];
        }

        private void setTaker(int to, int held) {
            words[WORD_TO] = to;
            words[WORD_HELD] = held;
        }

        /** Whether a clause with the head holds; the last one's sum is in told then. */
        private boolean tells(State state, int head) {
            Law law = state.lawInForce();
            if (law == null) {
                return false;
            }
            int[] code = law.code;
            boolean any = false;
            int at = 0;
            for (int i = 0; i < MOST_CLAUSES && at + 1 < code.length; i++) {
                int next = Math.min(code[at + 1], code.length);
                if (code[at] == head && holds(code, at + CLAUSE_START, next)) {
                    any = true;
                    told = top > 0 ? stack[0] : 1;
                }
                at = next;
            }
            return any;
        }

        /** Code skips forward alone, so it takes no more steps than it is long. */
        private boolean holds(int[] code, int from, int end) {
            top = 0;
            int at = from;
            while (at >= from && at < end) {
                int what = code[at];
                at++;
                if (what == CODE_SKIP_IF_NOT || what == CODE_SKIP_IF_SO) {
                    at = skips(what) && at < end ? Math.max(at, code[at]) : at + 1;
                } else if (what == CODE_ONLY_IF) {
                    if (pull() == 0) {
                        return false;
                    }
                } else if (!run(what)) {
                    return false;
                }
            }
            return true;
        }

        /** The answer in front stays, if what stands behind can't matter; else it makes way. */
        private boolean skips(int what) {
            int answer = pull();
            if ((answer == 0) != (what == CODE_SKIP_IF_NOT)) {
                return false;
            }
            return lay(answer);
        }

        /** Says no, if what is run is broken. */
        private boolean run(int what) {
            if (what >= 0) {
                return lay(what);
            }
            if (what >= -WORDS) {
                return lay(words[-1 - what]);
            }
            if (what == CODE_NOT) {
                return lay(1 - pull());
            }
            long right = pull();
            long left = pull();
            switch (what) {
                case CODE_ADD:
                    return lay(left + right);
                case CODE_TAKE:
                    return lay(left - right);
                case CODE_TIMES:
                    return lay(left * right);
                case CODE_SHARE:
                    return right != 0 && lay(left / right);
                case CODE_LESS:
                    return lay(left < right ? 1 : 0);
                case CODE_MORE:
                    return lay(left > right ? 1 : 0);
                case CODE_SAME:
                    return lay(left == right ? 1 : 0);
                default:
                    return false;
            }
        }

        private boolean lay(long number) {
            if (top >= STACK_ROOM || number > MOST_SUM || number < -MOST_SUM) {
                return false;
            }
            stack[top] = (int) number;
            top++;
            return true;
        }

        private int pull() {
            if (top <= 0) {
                return 0;
            }
            top--;
            return stack[top];
        }
    }

    /** Easter: who gives, who takes, by the cheapest chains. */
    private static final class Feast {
        final int[] roads = new int[MOST_VILLAGES * MOST_VILLAGES];
        final int[] givers = new int[MOST_GOING];
        int size = 0;
        int dawn = 0;
        private final int[] places = new int[MOST_GOING];
        private final int[] least = new int[1 << MOST_GOING];

        /** Whether there can be Easter: the list of givers and that of free places are made. */
        boolean invite(State state, Calendar calendar, int day) {
            int all = 0;
            for (int village = 0; village < state.villages; village++) {
                if (calendar.times(village, day) != 1) {
                    return false;
                }
                all += calendar.before(village, day);
            }
            if (state.villages < 1 || all % state.villages != 0) {
                return false;
            }
            dawn = all / state.villages;
            size = 0;
            int wanting = 0;
            for (int village = 0; village < state.villages; village++) {
                int over = calendar.before(village, day) - dawn;
                if (size + over > MOST_GOING || wanting - over > MOST_GOING) {
                    return false;
                }
                size = enter(givers, size, village, over);
                wanting = enter(places, wanting, village, -over);
            }
            return size == wanting;
        }

        private static int enter(int[] list, int from, int village, int times) {
            int at = from;
            for (int i = 0; i < times && at < list.length; i++) {
                list[at] = village;
                at++;
            }
            return at;
        }

        void layRoads(State state, Calendar calendar, Judge judge) {
            int all = state.villages;
            for (int a = 0; a < all; a++) {
                for (int b = 0; b < all; b++) {
                    int straight = a == b ? 0 : judge.costOf(state, a, b, calendar.total(b));
                    roads[a * MOST_VILLAGES + b] = straight;
                }
            }
            for (int by = 0; by < all; by++) {
                for (int a = 0; a < all; a++) {
                    for (int b = 0; b < all; b++) {
                        int round = road(a, by) + road(by, b);
                        roads[a * MOST_VILLAGES + b] = Math.min(road(a, b), round);
                    }
                }
            }
        }

        private int road(int from, int to) {
            return roads[from * MOST_VILLAGES + to];
        }

        /** The least cost of filling all places, for each set of places that are filled already. */
        void weigh() {
            int full = (1 << size) - 1;
            least[full] = 0;
            for (int filled = full - 1; filled >= 0; filled--) {
                int giver = givers[Integer.bitCount(filled)];
                int best = NO_COST;
                for (int p = 0; p < size; p++) {
                    if ((filled >> p & 1) == 0) {
                        best = Math.min(best, road(giver, places[p]) + least[filled | 1 << p]);
                    }
                }
                least[filled] = best;
            }
        }

        int leastCost() {
            return least[0];
        }

        int takerOf(int i) {
            int filled = 0;
            int taker = NONE;
            for (int k = 0; k <= i && k < size; k++) {
                int place = firstPlace(k, filled);
                if (place == NONE) {
                    return NONE;
                }
                taker = places[place];
                filled |= 1 << place;
            }
            return taker;
        }

        /** Places stand lowest taker first, so the first that keeps to the least cost is due. */
        private int firstPlace(int k, int filled) {
            for (int p = 0; p < size; p++) {
                if ((filled >> p & 1) == 0
                        && road(givers[k], places[p]) + least[filled | 1 << p] == least[filled]) {
                    return p;
                }
            }
            return NONE;
        }
    }

    /** A ring of debts. */
    private static final class Circle {
        final int[] members = new int[MOST_VILLAGES];
        int size = 0;
        private final int[] creditors = new int[MOST_VILLAGES];

        void find(State state) {
            for (int village = 0; village < state.villages; village++) {
                creditors[village] = creditorsOf(state, village);
            }
            for (int few = 2; few <= state.villages; few++) {
                size = few;
                for (int set = 1; set < 1 << state.villages; set++) {
                    if (Integer.bitCount(set) == few && closes(set)) {
                        return;
                    }
                }
            }
            size = 0;
        }

        private static int creditorsOf(State state, int village) {
            int set = 0;
            for (int copy = 0; copy < state.villages * DAYS; copy++) {
                if (state.holder[copy] == village) {
                    set |= 1 << copy / DAYS;
                }
            }
            return set & ~(1 << village);
        }

        private boolean closes(int set) {
            members[0] = Integer.bitCount((set & -set) - 1) % MOST_VILLAGES;
            return extend(set & ~(1 << members[0]), 1);
        }

        private boolean extend(int left, int depth) {
            if (depth < 1 || depth >= MOST_VILLAGES || left == 0) {
                return left == 0 && (creditors[members[size - 1]] >> members[0] & 1) == 1;
            }
            int next = left & creditors[members[depth - 1]];
            for (int village = 0; village < MOST_VILLAGES; village++) {
                if ((next >> village & 1) == 1) {
                    members[depth] = village;
                    if (extend(left & ~(1 << village), depth + 1)) {
                        return true;
                    }
                }
            }
            return false;
        }
    }

    /** The latest year; no villages: there was none yet. */
    private static final class Paper {
        final int[] holder = new int[COPIES];
        final int[] held = new int[MOST_VILLAGES];
        int villages = 0;
        private long seed = 0;

        void begin(State state, int from) {
            System.arraycopy(state.holder, 0, holder, 0, COPIES);
            villages = state.villages;
            seed = from;
            for (int village = 0; village < MOST_VILLAGES; village++) {
                held[village] = state.held(village);
            }
        }

        boolean drawLoan(State state, Judge judge) {
            int owner = draw(villages);
            int copy = owner * DAYS + draw(DAYS);
            int to = draw(villages);
            int from = holder[copy];
            if (from == to || judge.forbids(state, copy, from, to, held[to])) {
                return false;
            }
            held[from]--;
            held[to]++;
            holder[copy] = to;
            return true;
        }

        private int draw(int most) {
            seed = (seed * 1103 + 12345) % 1000003;
            return most > 0 ? (int) (seed % most) : 0;
        }
    }
}
