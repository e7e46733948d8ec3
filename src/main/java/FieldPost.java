import java.util.Arrays;

/** The field post that DOC.md promises; words in capitals there are names here. */
public final class FieldPost {
    private static final int NOBODY = -1;
    private static final int OTHER = -2;
    private static final int STATE = -3;
    private static final int BELOW = -4;
    private static final int ROOM = -6;
    private static final int REFUSAL_KINDS = 6;

    private static final int NONE = -9;
    private static final int FAULTY = -20;
    /** FAR of two OFFICES without a way: sums with it stay above every HOUR and never wrap. */
    private static final int UNREACHED = 1000000;

    private static final int MOST_HOURS = 2000;
    private static final int MOST_OFFICES = 12;
    private static final int MOST_HANDS = 99;
    private static final int MOST_WAYS = 24;
    private static final int MOST_LONG = 48;
    private static final int MOST_EVERY = 48;
    private static final int MOST_SHUTS = 40;
    private static final int UNITS = 16;
    private static final int MOST_MOVES = 60;
    private static final int MOST_MEN = 40;
    private static final int MOST_NAME = 9999;
    private static final int MOST_STATES = 80;
    private static final int MOST_MAILS = 60;
    private static final int MOST_WEIGHT = 99;
    private static final int MOST_SUM = 9999;
    private static final int MOST_KEEP = 999;
    private static final int FIRST_KEEP = 72;
    private static final int MOST_TAPE = 60;
    private static final int MOST_FEED = 8;
    private static final int MOST_ORDERS = 30;
    private static final int MOST_DEEP = 5;
    private static final int MOST_TRACE = 40;
    private static final int AFTER_HOURS = 300;
    private static final int NAME_DIGITS = 4;
    private static final int DIGIT_BASE = 11;
    private static final int UNREAD = 10;
    private static final int MOST_DIGITS = 14640;
    private static final int MOST_SACKS = 7;
    private static final int MOST_TIME = 99;
    private static final int MOST_TRAIN = 999;
    private static final int MOST_LETTERS = 9999;
    private static final int MOST_ROW = 12;
    private static final int LEAST_BYTE = -128;
    private static final int MOST_BYTE = 127;

    private static final int LETTER = 0;
    private static final int PARCEL = 1;
    private static final int MONEY = 2;

    private static final int WITH_UNIT = 0;
    private static final int SICK = 1;
    private static final int TAKEN = 2;
    private static final int DEAD = 3;

    private static final int BURN = 0;
    private static final int HOLD = 1;
    private static final int BACK = 2;

    private static final int AT = 0;
    private static final int ON_WAY = 1;
    private static final int GIVEN = 2;
    private static final int RETURNED = 3;
    private static final int BURNT = 4;

    private static final int WORD_KEPT = 1;
    private static final int WORD_BACK = 4;

    private final Post post = new Post();
    private final Net net = post.net;
    private final Roll roll = post.roll;
    private final Orders orders = post.orders;
    private final Mails mails = post.mails;
    private final Course course = new Course(MOST_MAILS * MOST_TRACE);
    /** What AFTER plays on; it leaves no TRACE, for nobody can ask for that. */
    private final Course glass = new Course(0);
    private final Shed shed = new Shed();
    private final int[] refusals = new int[REFUSAL_KINDS + 1];
    private int now;

    public FieldPost() {
    }

    public int office(int hands, boolean wired) {
        if (hands < 0) {
            return refuse(BELOW);
        }
        if (hands > MOST_HANDS || net.offices >= MOST_OFFICES) {
            return refuse(ROOM);
        }
        return net.addOffice(hands, wired);
    }

    public int staff(int office, int hands, boolean wired) {
        int refusal = net.hasOffice(office) ? outside(hands, 0, MOST_HANDS) : NOBODY;
        return refusal < 0 ? refuse(refusal) : net.setOffice(office, hands, wired);
    }

    public int way(int a, int b, int length, int first, int every) {
        if (!net.hasOffice(a) || !net.hasOffice(b) || a == b) {
            return refuse(NOBODY);
        }
        if (length < 1 || first < 0 || every < 1) {
            return refuse(BELOW);
        }
        if (length > MOST_LONG || first > MOST_HOURS || every > MOST_EVERY || net.ways >= MOST_WAYS) {
            return refuse(ROOM);
        }
        return net.addWay(a, b, length, first, every);
    }

    public int shut(int way, int from, int to) {
        if (!net.hasWay(way)) {
            return refuse(NOBODY);
        }
        if (from < now || to < from) {
            return refuse(BELOW);
        }
        if (to > MOST_HOURS || net.shuts >= MOST_SHUTS) {
            return refuse(ROOM);
        }
        return net.addShut(way, from, to);
    }

    public int far(int a, int b) {
        if (!net.hasOffice(a) || !net.hasOffice(b)) {
            return refuse(NOBODY);
        }
        return reachedOrNone(net.farBetween(a, b));
    }

    public int late(int office) {
        if (!net.hasOffice(office)) {
            return refuse(NOBODY);
        }
        return reachedOrNone(net.lateAt(office));
    }

    public int hours(int n) {
        if (n < 1) {
            return refuse(BELOW);
        }
        if (n > MOST_HOURS - now) {
            return refuse(ROOM);
        }
        for (int i = 0; i < n; i++) {
            post.passHour(course, now);
            now++;
        }
        return now;
    }

    public int move(int unit, int office, int from) {
        if (!isUnit(unit) || !net.hasOffice(office)) {
            return refuse(NOBODY);
        }
        if (from < now) {
            return refuse(BELOW);
        }
        if (from > MOST_HOURS || roll.moves >= MOST_MOVES) {
            return refuse(ROOM);
        }
        return roll.addMove(unit, office, from, now);
    }

    public int is(int unit, int hour) {
        int refusal = isUnit(unit) ? outside(hour, 0, MOST_HOURS) : NOBODY;
        return refusal < 0 ? refuse(refusal) : roll.unitAt(unit, hour, 0);
    }

    public int list(int office, int unit, int hour) {
        boolean known = net.hasOffice(office) && isUnit(unit);
        int refusal = known ? outside(hour, 0, MOST_HOURS) : NOBODY;
        return refusal < 0 ? refuse(refusal) : roll.unitAt(unit, hour, net.lateAt(office));
    }

    public int man(int unit, int name) {
        if (!isUnit(unit)) {
            return refuse(NOBODY);
        }
        if (name < 0) {
            return refuse(BELOW);
        }
        if (name > MOST_NAME || roll.men >= MOST_MEN) {
            return refuse(ROOM);
        }
        return roll.addMan(unit, name);
    }

    public int state(int man, int state, int office) {
        if (!roll.hasMan(man) || (state == SICK && !net.hasOffice(office))) {
            return refuse(NOBODY);
        }
        if (state < WITH_UNIT || state > DEAD) {
            return refuse(OTHER);
        }
        if (roll.states >= MOST_STATES) {
            return refuse(ROOM);
        }
        return roll.addState(man, state, office, now);
    }

    public int stateOf(int man, int hour, int office) {
        boolean asItIs = office == -1;
        boolean known = roll.hasMan(man) && (asItIs || net.hasOffice(office));
        int refusal = known ? outside(hour, 0, MOST_HOURS) : NOBODY;
        if (refusal < 0) {
            return refuse(refusal);
        }
        return roll.stateBy(man, hour, asItIs ? 0 : net.lateAt(office));
    }

    public int manAt(int man) {
        if (!roll.hasMan(man)) {
            return refuse(NOBODY);
        }
        return roll.manIsAt(man, now);
    }

    public int mail(int kind, int office, int man, int weight) {
        if (kind < LETTER || kind > MONEY) {
            return refuse(OTHER);
        }
        if (!net.hasOffice(office) || !roll.hasMan(man)) {
            return refuse(NOBODY);
        }
        if (weight < (kind == PARCEL ? 1 : 0)) {
            return refuse(BELOW);
        }
        if (weight > mostWeight(kind) || mails.count >= MOST_MAILS) {
            return refuse(ROOM);
        }
        int mail = mails.add(kind, office, man, weight, now);
        course.begin(mail, office, now);
        return mail;
    }

    public int feed(int n, long bytes) {
        if (n < 1) {
            return refuse(BELOW);
        }
        if (n > MOST_FEED || n > MOST_TAPE - orders.taped) {
            return refuse(ROOM);
        }
        return orders.addBytes(n, bytes);
    }

    public int order(int purpose) {
        if (!isPurpose(purpose)) {
            return refuse(OTHER);
        }
        if (orders.count >= MOST_ORDERS) {
            return refuse(ROOM);
        }
        int fault = orders.addOrder(purpose, now);
        return fault < 0 ? orders.count : FAULTY - fault;
    }

    public int holds(int purpose, int mail) {
        if (!isPurpose(purpose)) {
            return refuse(OTHER);
        }
        int refusal = notAtOffice(mail);
        if (refusal < 0) {
            return refuse(refusal);
        }
        post.takeFacts(course, mail, now);
        return post.purposeHolds(purpose, course.office[mail], now) ? 1 : 0;
    }

    public int keep(int n) {
        int refusal = outside(n, 1, MOST_KEEP);
        if (refusal < 0) {
            return refuse(refusal);
        }
        int was = post.keepHours;
        post.keepHours = n;
        return was;
    }

    public int mailOf(int mail, int what) {
        if (!mails.has(mail)) {
            return refuse(NOBODY);
        }
        switch (what) {
            case 0: return mails.kind[mail];
            case 1: return course.where[mail];
            case 2: return course.office[mail];
            case 3: return course.hour[mail];
            case 4: return course.turned[mail] ? 1 : 0;
            case 5: return course.word[mail];
            case 6: return course.came[mail];
            case 7: return course.spoilt[mail] ? 1 : 0;
            default: return refuse(OTHER);
        }
    }

    public int goal(int mail) {
        int refusal = notAtOffice(mail);
        return refusal < 0 ? refuse(refusal) : post.goalOf(course, mail, now);
    }

    public int next(int mail) {
        int refusal = notAtOffice(mail);
        if (refusal < 0) {
            return refuse(refusal);
        }
        return net.wayTo(course.office[mail], post.goalOf(course, mail, now));
    }

    public int trace(int mail, int i) {
        if (!mails.has(mail)) {
            return refuse(NOBODY);
        }
        return course.traced(mail, i);
    }

    public int fro(int mail) {
        if (!mails.has(mail)) {
            return refuse(NOBODY);
        }
        return course.toAndFro(mail);
    }

    public int after(int mail, int what) {
        if (!mails.has(mail)) {
            return refuse(NOBODY);
        }
        if (what != 0 && what != 1) {
            return refuse(OTHER);
        }
        if (course.ended(mail)) {
            return endOf(course, mail, what);
        }
        glass.copyFrom(course, mails.count);
        for (int i = 0; i < AFTER_HOURS; i++) {
            post.passHour(glass, now + i);
            if (glass.ended(mail)) {
                return endOf(glass, mail, what);
            }
        }
        return NONE;
    }

    public int paid(int man) {
        if (!roll.hasMan(man)) {
            return refuse(NOBODY);
        }
        int sum = 0;
        for (int i = 0; i < mails.count; i++) {
            if (mails.man[i] == man && mails.kind[i] == MONEY && course.where[i] == GIVEN) {
                sum += mails.weight[i];
            }
        }
        return sum;
    }

    public int cover(int unit, int digits) {
        int refusal = notACover(unit, digits);
        return refusal < 0 ? refuse(refusal) : roll.fitting(unit, digits);
    }

    public int sure(int unit, int digits) {
        int refusal = notACover(unit, digits);
        if (refusal < 0) {
            return refuse(refusal);
        }
        return roll.fitting(unit, digits) == 1 ? roll.firstFitting(unit, digits) : NONE;
    }

    public int sack(int time, int train, int letters) {
        if (time < 1 || train < 1 || letters < 0) {
            return refuse(BELOW);
        }
        if (time > MOST_TIME || train > MOST_TRAIN || letters > MOST_LETTERS || shed.sacks >= MOST_SACKS) {
            return refuse(ROOM);
        }
        return shed.addSack(time, train, letters);
    }

    public int best(int what) {
        if (what < 0 || what > 2) {
            return refuse(OTHER);
        }
        int set = shed.bestSet();
        if (what == 0) {
            return set;
        }
        return what == 1 ? shed.lettersOf(set) : shed.hoursOf(set);
    }

    public int put(int v) {
        if (v < LEAST_BYTE) {
            return refuse(BELOW);
        }
        if (v > MOST_BYTE || shed.rowSize >= MOST_ROW) {
            return refuse(ROOM);
        }
        return shed.addToRow(v);
    }

    public int judge(int what) {
        if (what != 0 && what != 1) {
            return refuse(OTHER);
        }
        int made = shed.rowMade();
        if (what == 0) {
            return made < shed.rowSize ? made : NONE;
        }
        int less = shed.lettersOf(shed.bestSet()) - shed.rowLetters(made);
        shed.rowSize = 0;
        return less;
    }

    public int waiting(int office) {
        if (!net.hasOffice(office)) {
            return refuse(NOBODY);
        }
        int waiting = 0;
        for (int i = 0; i < mails.count; i++) {
            if (course.where[i] == AT && course.office[i] == office) {
                waiting++;
            }
        }
        return waiting;
    }

    public int count(int what) {
        switch (what) {
            case 0: return now;
            case 1: return net.offices;
            case 2: return net.ways;
            case 3: return roll.moves;
            case 4: return roll.men;
            case 5: return mails.count;
            case 6: return course.howMany(GIVEN, mails.count);
            case 7: return course.howMany(RETURNED, mails.count);
            case 8: return course.howMany(BURNT, mails.count);
            case 9: return course.howManySpoilt(mails.count);
            case 10: return orders.taped;
            case 11: case 12: case 13: case 14: case 15: case 16: return refusals[what - 10];
            case 17: return shed.rowSize;
            case 18: return orders.count;
            default: return NONE;
        }
    }

    private int refuse(int number) {
        int kind = -number;
        if (kind >= 0 && kind < refusals.length) {
            refusals[kind]++;
        }
        return number;
    }

    private static boolean isUnit(int unit) {
        return unit >= 0 && unit < UNITS;
    }

    private static boolean isPurpose(int purpose) {
        return purpose >= BURN && purpose <= BACK;
    }

    private static int reachedOrNone(int hours) {
        return hours < UNREACHED ? hours : NONE;
    }

    private static int mostWeight(int kind) {
        if (kind == MONEY) {
            return MOST_SUM;
        }
        return kind == PARCEL ? MOST_KEEP : MOST_WEIGHT;
    }

    private static int endOf(Course c, int mail, int what) {
        return what == 0 ? c.hour[mail] : c.where[mail];
    }

    /** The refusal of a number, 0 if there is none; those below answer in the same way. */
    private static int outside(int number, int least, int greatest) {
        if (number < least) {
            return BELOW;
        }
        return number > greatest ? ROOM : 0;
    }

    private static int notACover(int unit, int digits) {
        return unit == -1 || isUnit(unit) ? outside(digits, 0, MOST_DIGITS) : NOBODY;
    }

    private int notAtOffice(int mail) {
        if (!mails.has(mail)) {
            return NOBODY;
        }
        return course.where[mail] == AT ? 0 : STATE;
    }

    /** OFFICES and the WAYS between them. */
    private static final class Net {
        final int[] hands = new int[MOST_OFFICES];
        final boolean[] wired = new boolean[MOST_OFFICES];
        final int[] far = new int[MOST_OFFICES * MOST_OFFICES];
        int offices;
        final int[] endA = new int[MOST_WAYS];
        final int[] endB = new int[MOST_WAYS];
        final int[] length = new int[MOST_WAYS];
        final int[] first = new int[MOST_WAYS];
        final int[] every = new int[MOST_WAYS];
        int ways;
        final int[] shutWay = new int[MOST_SHUTS];
        final int[] shutFrom = new int[MOST_SHUTS];
        final int[] shutTo = new int[MOST_SHUTS];
        int shuts;

        Net() {
            Arrays.fill(far, UNREACHED);
            for (int i = 0; i < MOST_OFFICES; i++) {
                far[i * MOST_OFFICES + i] = 0;
            }
        }

        boolean hasOffice(int office) {
            return office >= 0 && office < offices;
        }

        boolean hasWay(int way) {
            return way >= 0 && way < ways;
        }

        int addOffice(int howMany, boolean wire) {
            hands[offices] = howMany;
            wired[offices] = wire;
            offices++;
            return offices - 1;
        }

        int setOffice(int office, int howMany, boolean wire) {
            int were = hands[office];
            hands[office] = howMany;
            wired[office] = wire;
            return were;
        }

        int addWay(int a, int b, int hoursLong, int firstHour, int everyHours) {
            endA[ways] = a;
            endB[ways] = b;
            length[ways] = hoursLong;
            first[ways] = firstHour;
            every[ways] = everyHours;
            ways++;
            shorten(a, b, hoursLong);
            return ways - 1;
        }

        /** No least sum takes the new WAY twice, so one round over all pairs brings FAR up to date. */
        private void shorten(int a, int b, int hoursLong) {
            for (int i = 0; i < offices; i++) {
                for (int j = 0; j < offices; j++) {
                    int byAB = farBetween(i, a) + hoursLong + farBetween(b, j);
                    int byBA = farBetween(i, b) + hoursLong + farBetween(a, j);
                    int least = Math.min(byAB, byBA);
                    if (least < farBetween(i, j)) {
                        far[i * MOST_OFFICES + j] = least;
                    }
                }
            }
        }

        int addShut(int way, int from, int to) {
            shutWay[shuts] = way;
            shutFrom[shuts] = from;
            shutTo[shuts] = to;
            shuts++;
            return shuts;
        }

        int farBetween(int a, int b) {
            return far[a * MOST_OFFICES + b];
        }

        /** LATE; UNREACHED if the OFFICE never hears. */
        int lateAt(int office) {
            return wired[office] ? 0 : farBetween(0, office);
        }

        boolean leaves(int way, int h) {
            int step = every[way];
            if (step < 1 || h < first[way] || (h - first[way]) % step != 0) {
                return false;
            }
            for (int i = 0; i < shuts; i++) {
                if (shutWay[i] == way && shutFrom[i] <= h && h <= shutTo[i]) {
                    return false;
                }
            }
            return true;
        }

        /** The WAY by which a MAIL goes on to its goal; NONE if it has none, is there, or can't come there. */
        int wayTo(int office, int goal) {
            if (!hasOffice(goal) || goal == office || farBetween(office, goal) >= UNREACHED) {
                return NONE;
            }
            for (int i = 0; i < ways; i++) {
                if (endA[i] == office || endB[i] == office) {
                    if (length[i] + farBetween(otherEnd(i, office), goal) == farBetween(office, goal)) {
                        return i;
                    }
                }
            }
            return NONE;
        }

        int otherEnd(int way, int office) {
            return endA[way] == office ? endB[way] : endA[way];
        }
    }

    /** Where UNITS and MEN are, by what was told up to some HOUR less LATE (LATE 0: as it is). */
    private static final class Roll {
        final int[] moveUnit = new int[MOST_MOVES];
        final int[] moveOffice = new int[MOST_MOVES];
        final int[] moveFrom = new int[MOST_MOVES];
        final int[] moveTold = new int[MOST_MOVES];
        int moves;
        final int[] manUnit = new int[MOST_MEN];
        final int[] manName = new int[MOST_MEN];
        int men;
        final int[] stateMan = new int[MOST_STATES];
        final int[] stateNumber = new int[MOST_STATES];
        final int[] stateOffice = new int[MOST_STATES];
        final int[] stateTold = new int[MOST_STATES];
        int states;

        boolean hasMan(int man) {
            return man >= 0 && man < men;
        }

        int addMove(int unit, int office, int from, int told) {
            moveUnit[moves] = unit;
            moveOffice[moves] = office;
            moveFrom[moves] = from;
            moveTold[moves] = told;
            moves++;
            return moves;
        }

        int addMan(int unit, int name) {
            manUnit[men] = unit;
            manName[men] = name;
            men++;
            return men - 1;
        }

        int addState(int man, int state, int office, int told) {
            stateMan[states] = man;
            stateNumber[states] = state;
            stateOffice[states] = office;
            stateTold[states] = told;
            states++;
            return states;
        }

        /** With LATE 0 this is where the UNIT IS, for no MOVE is from an HOUR ahead of its telling. */
        int unitAt(int unit, int h, int late) {
            int office = NONE;
            int latest = 0;
            for (int i = 0; i < moves; i++) {
                boolean known = moveUnit[i] == unit && moveTold[i] + late <= h && moveFrom[i] <= h;
                if (known && moveFrom[i] >= latest) {
                    latest = moveFrom[i];
                    office = moveOffice[i];
                }
            }
            return office;
        }

        /** The place of the STATE told last and heard by then; -1 if none was. */
        int lastState(int man, int h, int late) {
            for (int i = states - 1; i >= 0; i--) {
                if (stateMan[i] == man && stateTold[i] + late <= h) {
                    return i;
                }
            }
            return -1;
        }

        int stateBy(int man, int h, int late) {
            int last = lastState(man, h, late);
            return last < 0 ? WITH_UNIT : stateNumber[last];
        }

        int manIsAt(int man, int h) {
            int last = lastState(man, h, 0);
            if (last < 0 || stateNumber[last] == WITH_UNIT) {
                return unitAt(manUnit[man], h, 0);
            }
            return stateNumber[last] == SICK ? stateOffice[last] : NONE;
        }

        int fitting(int unit, int digits) {
            int fit = 0;
            for (int i = 0; i < men; i++) {
                if (fits(i, unit, digits)) {
                    fit++;
                }
            }
            return fit;
        }

        int firstFitting(int unit, int digits) {
            for (int i = 0; i < men; i++) {
                if (fits(i, unit, digits)) {
                    return i;
                }
            }
            return NONE;
        }

        private boolean fits(int man, int unit, int digits) {
            if (unit != -1 && manUnit[man] != unit) {
                return false;
            }
            int name = manName[man];
            int rest = digits;
            for (int i = 0; i < NAME_DIGITS; i++) {
                int digit = rest % DIGIT_BASE;
                if (digit != UNREAD && digit != name % 10) {
                    return false;
                }
                rest = rest / DIGIT_BASE;
                name = name / 10;
            }
            return true;
        }
    }

    /** Reads a TEXT once and writes it down as steps, so that no HOUR has to read it again. */
    private static final class Reader {
        static final int NOT = -1;
        static final int AND = -2;
        static final int OR = -3;
        static final String SIGNS = "<=>";
        static final int LESS = 0;
        static final int LIKE = 1;
        /** A UNIT of a TEXT is its number, or this and the place of its letter here. */
        static final int FIRST_LETTER = 10000;
        static final String LETTERS = "kwahsuobc";
        static final int UNIT_BITS = 14;
        static final int UNIT_MASK = (1 << UNIT_BITS) - 1;
        static final int SIGN_BITS = 2;
        static final int SIGN_MASK = (1 << SIGN_BITS) - 1;
        static final int UNIT_DIGITS = 4;

        final byte[] text = new byte[MOST_TAPE];
        final int[] steps = new int[MOST_TAPE];
        int size;
        private int length;
        private int place;
        private int fault;
        /** The byte to be read; at the end, or behind a FAULT, one that stands nowhere. */
        private char here;

        /** The place of the FAULT in the first bytes of the text, -1 if there is none. */
        int readText(int bytes) {
            length = Math.min(bytes, text.length);
            size = 0;
            fault = -1;
            goTo(0);
            ors(0);
            if (place < length) {
                fail();
            }
            return fault;
        }

        private void ors(int deep) {
            ands(deep);
            for (int i = 0; i < MOST_TAPE && take('|'); i++) {
                ands(deep);
                write(OR);
            }
        }

        private void ands(int deep) {
            test(deep);
            for (int i = 0; i < MOST_TAPE && take('&'); i++) {
                test(deep);
                write(AND);
            }
        }

        private void test(int deep) {
            boolean opens = here == '!' || here == '(';
            if (opens && deep >= MOST_DEEP) {
                fail();
            } else if (take('!')) {
                test(deep + 1);
                write(NOT);
            } else if (take('(')) {
                ors(deep + 1);
                if (!take(')')) {
                    fail();
                }
            } else {
                int left = unit();
                int sign = sign();
                write((left << SIGN_BITS | sign) << UNIT_BITS | unit());
            }
        }

        private int unit() {
            int letter = LETTERS.indexOf(here);
            if (letter >= 0) {
                goTo(place + 1);
                return FIRST_LETTER + letter;
            }
            if (here < '0' || here > '9') {
                fail();
            }
            int number = 0;
            for (int i = 0; i < UNIT_DIGITS && here >= '0' && here <= '9'; i++) {
                number = number * 10 + (here - '0');
                goTo(place + 1);
            }
            return number;
        }

        /** The place of the sign in SIGNS. */
        private int sign() {
            int sign = SIGNS.indexOf(here);
            if (sign < 0) {
                fail();
                return 0;
            }
            goTo(place + 1);
            return sign;
        }

        private boolean take(char c) {
            if (here != c) {
                return false;
            }
            goTo(place + 1);
            return true;
        }

        private void goTo(int there) {
            place = there;
            here = there >= 0 && there < length ? (char) (text[there] & 255) : (char) 0;
        }

        /** The first FAULT stays: with no byte to be read any more, nothing goes on from it. */
        private void fail() {
            if (fault < 0) {
                fault = place;
            }
            here = (char) 0;
        }

        private void write(int step) {
            if (size < steps.length) {
                steps[size] = step;
                size++;
            }
        }
    }

    /** THE TAPE and the ORDERS told from it. */
    private static final class Orders {
        final Reader reader = new Reader();
        int taped;
        final int[] purposes = new int[MOST_ORDERS];
        final int[] told = new int[MOST_ORDERS];
        final int[] sizes = new int[MOST_ORDERS];
        final int[] steps = new int[MOST_ORDERS * MOST_TAPE];
        int count;

        int addBytes(int n, long bytes) {
            for (int i = 0; i < n; i++) {
                reader.text[taped] = (byte) (bytes >> (8 * i));
                taped++;
            }
            return taped;
        }

        /** The place of the FAULT, or -1 and there is an ORDER more; THE TAPE has none either way. */
        int addOrder(int purpose, int h) {
            int fault = reader.readText(taped);
            taped = 0;
            if (fault < 0) {
                purposes[count] = purpose;
                told[count] = h;
                sizes[count] = reader.size;
                System.arraycopy(reader.steps, 0, steps, count * MOST_TAPE, reader.size);
                count++;
            }
            return fault;
        }

        /** The ORDER in force for a PURPOSE; -1 if there is none. */
        int inForce(int purpose, int h, int late) {
            for (int i = count - 1; i >= 0; i--) {
                if (purposes[i] == purpose && told[i] + late <= h) {
                    return i;
                }
            }
            return -1;
        }

        /** Whether the TEXT of an ORDER is true: what is not used up yet stands in the bits of a number. */
        boolean isTrue(int order, int[] facts) {
            int open = 0;
            int begin = order * MOST_TAPE;
            for (int i = 0; i < sizes[order]; i++) {
                int step = steps[begin + i];
                int last = open & 1;
                if (step == Reader.NOT) {
                    open = open ^ 1;
                } else if (step == Reader.AND) {
                    open = last == 1 ? open >> 1 : (open >> 1) & ~1;
                } else if (step == Reader.OR) {
                    open = open >> 1 | last;
                } else {
                    open = open << 1 | (isTrueStep(step, facts) ? 1 : 0);
                }
            }
            return (open & 1) == 1;
        }

        private static boolean isTrueStep(int step, int[] facts) {
            int left = valueOf(step >> (Reader.UNIT_BITS + Reader.SIGN_BITS), facts);
            int right = valueOf(step & Reader.UNIT_MASK, facts);
            int sign = step >> Reader.UNIT_BITS & Reader.SIGN_MASK;
            if (sign == Reader.LESS) {
                return left < right;
            }
            return sign == Reader.LIKE ? left == right : left > right;
        }

        private static int valueOf(int unit, int[] facts) {
            int letter = unit - Reader.FIRST_LETTER;
            return letter >= 0 && letter < facts.length ? facts[letter] : unit;
        }
    }

    /** What a MAIL is from its posting on. */
    private static final class Mails {
        final int[] kind = new int[MOST_MAILS];
        final int[] origin = new int[MOST_MAILS];
        final int[] man = new int[MOST_MAILS];
        final int[] weight = new int[MOST_MAILS];
        final int[] posted = new int[MOST_MAILS];
        int count;

        boolean has(int mail) {
            return mail >= 0 && mail < count;
        }

        int add(int itsKind, int office, int toMan, int itsWeight, int h) {
            kind[count] = itsKind;
            origin[count] = office;
            man[count] = toMan;
            weight[count] = itsWeight;
            posted[count] = h;
            count++;
            return count - 1;
        }
    }

    /** What becomes of the MAILS HOUR by HOUR; OFFICE and HOUR are those that mailOf() tells. */
    private static final class Course {
        final int[] where = new int[MOST_MAILS];
        final int[] office = new int[MOST_MAILS];
        final int[] hour = new int[MOST_MAILS];
        final boolean[] turned = new boolean[MOST_MAILS];
        final int[] word = new int[MOST_MAILS];
        final int[] came = new int[MOST_MAILS];
        final boolean[] spoilt = new boolean[MOST_MAILS];
        private final byte[] traces;

        Course(int traceRoom) {
            traces = new byte[Math.max(traceRoom, 0)];
        }

        void copyFrom(Course other, int count) {
            System.arraycopy(other.where, 0, where, 0, count);
            System.arraycopy(other.office, 0, office, 0, count);
            System.arraycopy(other.hour, 0, hour, 0, count);
            System.arraycopy(other.turned, 0, turned, 0, count);
            System.arraycopy(other.word, 0, word, 0, count);
            System.arraycopy(other.came, 0, came, 0, count);
            System.arraycopy(other.spoilt, 0, spoilt, 0, count);
        }

        void begin(int mail, int at, int h) {
            office[mail] = at;
            hour[mail] = h;
            come(mail);
        }

        void arrive(int count, int h) {
            for (int i = 0; i < count; i++) {
                if (where[i] == ON_WAY && hour[i] == h) {
                    come(i);
                }
            }
        }

        private void come(int mail) {
            where[mail] = AT;
            int place = mail * MOST_TRACE + came[mail];
            if (came[mail] < MOST_TRACE && place < traces.length) {
                traces[place] = (byte) office[mail];
            }
            came[mail]++;
        }

        void send(int mail, int to, int thereOn) {
            where[mail] = ON_WAY;
            office[mail] = to;
            hour[mail] = thereOn;
        }

        void turn(int mail, int why) {
            turned[mail] = true;
            word[mail] = why;
        }

        void finish(int mail, int how, int h) {
            where[mail] = how;
            hour[mail] = h;
        }

        boolean ended(int mail) {
            return where[mail] >= GIVEN;
        }

        int howMany(int how, int count) {
            int many = 0;
            for (int i = 0; i < count; i++) {
                if (where[i] == how) {
                    many++;
                }
            }
            return many;
        }

        int howManySpoilt(int count) {
            int many = 0;
            for (int i = 0; i < count; i++) {
                if (spoilt[i]) {
                    many++;
                }
            }
            return many;
        }

        int traced(int mail, int i) {
            int place = mail * MOST_TRACE + i;
            if (i < 0 || i >= came[mail] || i >= MOST_TRACE || place >= traces.length) {
                return NONE;
            }
            return traces[place];
        }

        int toAndFro(int mail) {
            int kept = Math.min(came[mail], MOST_TRACE);
            for (int i = 0; i + 3 < kept; i++) {
                boolean there = traced(mail, i) == traced(mail, i + 2);
                if (there && traced(mail, i + 1) == traced(mail, i + 3)) {
                    return i;
                }
            }
            return NONE;
        }
    }

    /** How an HOUR passes, on the true course or on the glass. */
    private static final class Post {
        /** Where facts has the letter s. */
        static final int STATE_HEARD = 4;

        final Net net = new Net();
        final Roll roll = new Roll();
        final Orders orders = new Orders();
        final Mails mails = new Mails();
        private final int[] queue = new int[MOST_MAILS];
        private final int[] seen = new int[MOST_OFFICES];
        /** What the letters of a TEXT mean for one MAIL, in the order of Reader.LETTERS. */
        private final int[] facts = new int[Reader.LETTERS.length()];
        int keepHours = FIRST_KEEP;

        /** No OFFICE changes what another sees in the same HOUR, so one queue serves them all. */
        void passHour(Course c, int h) {
            c.arrive(mails.count, h);
            int waiting = lineUp(c);
            Arrays.fill(seen, 0);
            for (int i = 0; i < waiting; i++) {
                int mail = queue[i];
                int office = c.office[mail];
                if (seen[office] < net.hands[office]) {
                    seen[office]++;
                    see(c, mail, h);
                }
            }
        }

        /** Who came first stands ahead; MAILS are taken by numbers, so like ones stay in their order. */
        private int lineUp(Course c) {
            int size = 0;
            for (int mail = 0; mail < mails.count; mail++) {
                if (c.where[mail] == AT) {
                    int place = size;
                    while (place > 0 && c.hour[queue[place - 1]] > c.hour[mail]) {
                        queue[place] = queue[place - 1];
                        place--;
                    }
                    queue[place] = mail;
                    size++;
                }
            }
            return size;
        }

        private void see(Course c, int mail, int h) {
            int office = c.office[mail];
            takeFacts(c, mail, h);
            if (purposeHolds(BURN, office, h)) {
                c.finish(mail, BURNT, h);
            } else if (!purposeHolds(HOLD, office, h)) {
                turnBack(c, mail, h);
                handle(c, mail, h);
            }
        }

        private void turnBack(Course c, int mail, int h) {
            if (c.turned[mail]) {
                return;
            }
            int state = facts[STATE_HEARD];
            if (purposeHolds(BACK, c.office[mail], h)) {
                c.turn(mail, WORD_BACK);
            } else if (state == TAKEN || state == DEAD) {
                c.turn(mail, state);
            }
        }

        private void handle(Course c, int mail, int h) {
            int office = c.office[mail];
            int goal = goalOf(c, mail, h);
            if (goal == office && c.turned[mail]) {
                c.finish(mail, RETURNED, h);
            } else if (goal == office && roll.manIsAt(mails.man[mail], h) == office) {
                give(c, mail, h);
            } else if (goal == office || goal == NONE) {
                if (h - c.hour[mail] >= keepHours) {
                    c.turn(mail, WORD_KEPT);
                }
            } else {
                sendOn(c, mail, goal, h);
            }
        }

        private void give(Course c, int mail, int h) {
            boolean parcel = mails.kind[mail] == PARCEL;
            c.spoilt[mail] = parcel && h - mails.posted[mail] > mails.weight[mail];
            c.finish(mail, GIVEN, h);
        }

        private void sendOn(Course c, int mail, int goal, int h) {
            int office = c.office[mail];
            int way = net.wayTo(office, goal);
            if (net.hasWay(way) && net.leaves(way, h)) {
                c.send(mail, net.otherEnd(way, office), h + net.length[way]);
            }
        }

        int goalOf(Course c, int mail, int h) {
            if (c.turned[mail]) {
                return mails.origin[mail];
            }
            int man = mails.man[mail];
            int late = net.lateAt(c.office[mail]);
            int last = roll.lastState(man, h, late);
            if (last >= 0 && roll.stateNumber[last] == SICK) {
                return roll.stateOffice[last];
            }
            return roll.unitAt(roll.manUnit[man], h, late);
        }

        void takeFacts(Course c, int mail, int h) {
            int office = c.office[mail];
            int man = mails.man[mail];
            facts[0] = mails.kind[mail];
            facts[1] = mails.weight[mail];
            facts[2] = h - mails.posted[mail];
            facts[3] = h - c.hour[mail];
            facts[STATE_HEARD] = roll.stateBy(man, h, net.lateAt(office));
            facts[5] = roll.manUnit[man];
            facts[6] = office;
            facts[7] = c.turned[mail] ? 1 : 0;
            facts[8] = c.came[mail];
        }

        /** Whether a PURPOSE holds for the MAIL whose facts were taken last. */
        boolean purposeHolds(int purpose, int office, int h) {
            int order = orders.inForce(purpose, h, net.lateAt(office));
            return order >= 0 && orders.isTrue(order, facts);
        }
    }

    /** SACKS, the BEST set of them, and the row that is to be JUDGED. */
    private static final class Shed {
        final int[] times = new int[MOST_SACKS];
        final int[] trains = new int[MOST_SACKS];
        final int[] letters = new int[MOST_SACKS];
        int sacks;
        /** The numbers of the SACKS, by TRAINS. */
        private final int[] byTrain = new int[MOST_SACKS];
        private final int[] row = new int[MOST_ROW];
        int rowSize;

        int addSack(int time, int train, int itsLetters) {
            times[sacks] = time;
            trains[sacks] = train;
            letters[sacks] = itsLetters;
            int place = sacks;
            while (place > 0 && trains[byTrain[place - 1]] > train) {
                byTrain[place] = byTrain[place - 1];
                place--;
            }
            byTrain[place] = sacks;
            sacks++;
            return sacks - 1;
        }

        int addToRow(int v) {
            row[rowSize] = v;
            rowSize++;
            return rowSize;
        }

        int bestSet() {
            int best = 0;
            for (int set = 1; set < 1 << sacks; set++) {
                if (canBeMade(set) && isBetter(set, best)) {
                    best = set;
                }
            }
            return best;
        }

        private boolean isBetter(int set, int best) {
            int more = lettersOf(set) - lettersOf(best);
            return more > 0 || (more == 0 && hoursOf(set) < hoursOf(best));
        }

        private boolean canBeMade(int set) {
            int done = 0;
            for (int i = 0; i < sacks; i++) {
                int sack = byTrain[i];
                if (isIn(sack, set)) {
                    done += times[sack];
                    if (done > trains[sack]) {
                        return false;
                    }
                }
            }
            return true;
        }

        private static boolean isIn(int sack, int set) {
            return (set >> sack & 1) == 1;
        }

        int lettersOf(int set) {
            return sumOf(letters, set);
        }

        int hoursOf(int set) {
            return sumOf(times, set);
        }

        private int sumOf(int[] numbers, int set) {
            int sum = 0;
            for (int i = 0; i < sacks; i++) {
                if (isIn(i, set)) {
                    sum += numbers[i];
                }
            }
            return sum;
        }

        /** How many of the row are made before the first that is wrong. */
        int rowMade() {
            int taken = 0;
            int done = 0;
            for (int i = 0; i < rowSize; i++) {
                int sack = row[i];
                if (sack < 0 || sack >= sacks || isIn(sack, taken)) {
                    return i;
                }
                done += times[sack];
                if (done > trains[sack]) {
                    return i;
                }
                taken = taken | 1 << sack;
            }
            return rowSize;
        }

        /** LETTERS of the first of the row, which rowMade() found to be SACKS. */
        int rowLetters(int made) {
            int sum = 0;
            for (int i = 0; i < made; i++) {
                sum += letters[row[i]];
            }
            return sum;
        }
    }
}
