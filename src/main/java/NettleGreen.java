import java.util.Arrays;

/** A hamlet where people greet one another with nettles; ../shared/DOC.md tells what each call answers. */
public final class NettleGreen {
    public static final int NONE = -1;

    private static final int NOTHING_LIES = -2;
    private static final int MOST_BYTES = 1600;
    private static final int FED_BYTES = 20;
    private static final int MOST_PEOPLE = 6;
    private static final int MOST_MEETINGS = 9;
    private static final int MOST_BROTHERS = 2;
    private static final int MOST_LUMPS = 99;
    private static final int MOST_FIRM = 30;
    private static final int DAYS_OF_WEEK = 7;
    private static final int LAST_DAY = 999;
    private static final int FAR_AHEAD = 60;
    private static final int HALF_AHEAD = 30;
    private static final int NEAR_AHEAD = 14;
    private static final int MOST_BOXES = 3;
    private static final int MOST_FLARING = 4;

    private final byte[] tape;
    private int tapeLength;
    private Hamlet told;
    private int faultKind;
    private int faultPlace;
    private final Parser parser;
    private final State now;
    private final Ledger ledger;
    private final int[] boxes;
    private int boxesInUse;
    private final Outlook outlook;
    private final Circle circle;
    private final Sightings sightings;
    private final int[] lying;
    private int lyingCount;

    public NettleGreen() {
        tape = new byte[MOST_BYTES];
        tapeLength = 0;
        told = new Hamlet();
        faultKind = 0;
        faultPlace = NONE;
        parser = new Parser();
        now = new State();
        ledger = new Ledger();
        boxes = new int[MOST_BOXES * State.CELLS];
        boxesInUse = 0;
        outlook = new Outlook();
        circle = new Circle();
        sightings = new Sightings();
        lying = new int[MOST_PEOPLE];
        lyingCount = 0;
    }

    public int feed(int a, int b, int c, int d, int e) {
        if (tapeLength + FED_BYTES > MOST_BYTES) {
            return NONE;
        }
        putFour(a);
        putFour(b);
        putFour(c);
        putFour(d);
        putFour(e);
        return tapeLength;
    }

    public int end(int n) {
        if (n < 0 || n > tapeLength) {
            return NONE;
        }
        tapeLength = n;
        return n;
    }

    public int hamlet() {
        boolean read = parser.read(tape, tapeLength);
        tapeLength = 0;
        faultKind = parser.faultKind;
        faultPlace = parser.faultPlace;
        if (!read) {
            return NONE;
        }
        told = parser.swapDraft(told);
        now.setAsTold(told);
        ledger.restart(now);
        sightings.forget();
        lyingCount = 0;
        boxesInUse = 0;
        return told.people;
    }

    public int fault(int what) {
        switch (what) {
            case 0:
                return faultKind;
            case 1:
                return faultPlace;
            default:
                return NONE;
        }
    }

    public int person(int person, int what) {
        if (!isPerson(person)) {
            return NONE;
        }
        switch (what) {
            case 0:
                return now.firm[person];
            case 1:
                return told.learns[person];
            case 2:
                return now.lumps[person];
            case 3:
                return told.liesAbed(now, person) ? 1 : 0;
            default:
                return NONE;
        }
    }

    public int meeting(int meeting, int what) {
        if (!isMeeting(meeting)) {
            return NONE;
        }
        switch (what) {
            case 0:
                return told.first[meeting];
            case 1:
                return told.second[meeting];
            case 2:
                return told.weekday[meeting];
            case 3:
                return now.isForbidden(meeting) ? 1 : 0;
            default:
                return NONE;
        }
    }

    public int brother(int brother, int what) {
        if (!isBrother(brother)) {
            return NONE;
        }
        switch (what) {
            case 0:
                return told.cools[brother];
            case 1:
                return told.roundSize[brother];
            default:
                return NONE;
        }
    }

    public int round(int brother, int place) {
        if (!isBrother(brother) || place < 0 || place >= told.roundSize[brother]) {
            return NONE;
        }
        return told.rounds[brother * MOST_PEOPLE + place];
    }

    public int touch(int meeting, int what) {
        if (!isMeeting(meeting) || !isZeroOrOne(what)) {
            return NONE;
        }
        int own = what == 0 ? told.first[meeting] : told.second[meeting];
        int other = what == 0 ? told.second[meeting] : told.first[meeting];
        return told.formula.lumpsLeft(now.firm[own], now.firm[other], now.lumps[own], now.day);
    }

    public int abed() {
        return told.abedBits(now);
    }

    public int day() {
        if (now.day >= LAST_DAY) {
            return NONE;
        }
        int met = told.passDay(now, told.rounds, true);
        ledger.keepAct(now);
        return met;
    }

    public int lesson(int person) {
        if (!isPerson(person) || now.firm[person] >= MOST_FIRM) {
            return NONE;
        }
        now.firm[person]++;
        ledger.keepAct(now);
        return now.firm[person];
    }

    public int forbid(int meeting) {
        if (!isMeeting(meeting) || now.isForbidden(meeting)) {
            return NONE;
        }
        return turnForbidden(meeting);
    }

    public int allow(int meeting) {
        if (!isMeeting(meeting) || !now.isForbidden(meeting)) {
            return NONE;
        }
        return turnForbidden(meeting);
    }

    public int call(int brother, int person) {
        if (!isBrother(brother) || !isPerson(person) || now.lumps[person] == 0) {
            return NONE;
        }
        told.coolOne(now, brother, person);
        ledger.keepAct(now);
        return now.lumps[person];
    }

    public boolean undo() {
        return ledger.stepBack(now);
    }

    public boolean redo() {
        return ledger.stepOn(now);
    }

    public int will(int person, int n, int what) {
        if (!isPerson(person) || !isWithin(n, FAR_AHEAD) || !isZeroOrOne(what)) {
            return NONE;
        }
        return outlook.lumpsBehind(told, now, person, n, what == 1);
    }

    public int firm(int person, int n) {
        if (!isPerson(person) || !isWithin(n, FAR_AHEAD)) {
            return NONE;
        }
        return outlook.firmBehind(told, now, person, n);
    }

    public int hurt(int n) {
        return isWithin(n, FAR_AHEAD) ? outlook.hurtBehind(told, now, n) : NONE;
    }

    public int felled(int person) {
        return isPerson(person) ? outlook.daysTillAbed(told, now, person, FAR_AHEAD) : NONE;
    }

    public int peace(int n, int what) {
        if (!isWithin(n, NEAR_AHEAD) || !isZeroOrOne(what)) {
            return NONE;
        }
        int set = outlook.leastToForbid(told, now, n);
        if (set == NONE) {
            return NONE;
        }
        return what == 0 ? Integer.bitCount(set) : set;
    }

    public int rounds(int brother, int n) {
        lyingCount = 0;
        if (!isBrother(brother) || !isWithin(n, NEAR_AHEAD)) {
            return NONE;
        }
        int least = outlook.bestOrder(told, now, brother, n, lying);
        lyingCount = told.roundSize[brother];
        return least;
    }

    public int grip(int person, int n) {
        if (!isPerson(person) || !isWithin(n, HALF_AHEAD)) {
            return NONE;
        }
        return outlook.leastGrip(told, now, person, n);
    }

    public int pupil(int n, int what) {
        if (!isWithin(n, HALF_AHEAD) || !isZeroOrOne(what)) {
            return NONE;
        }
        outlook.choosePupil(told, now, n);
        return chosen(what);
    }

    public int evenings() {
        int groups = circle.fewestGroups(told, now.forbidden, lying);
        lyingCount = told.people;
        return groups;
    }

    public int rumour(int person, int other) {
        if (!isPerson(person) || !isPerson(other)) {
            return NONE;
        }
        return circle.stepsBetween(told, now.forbidden, person, other);
    }

    public int manners() {
        return outlook.daysTillSettled(told, now, FAR_AHEAD);
    }

    public int duel(int meeting) {
        lyingCount = 0;
        if (!isMeeting(meeting)) {
            return NONE;
        }
        int rests = 0;
        for (int ways = 0; ways < 4; ways++) {
            if (outlook.isRest(told, now, meeting, ways >> 1, ways & 1)) {
                if (rests == 0) {
                    lying[0] = ways >> 1;
                    lying[1] = ways & 1;
                    lyingCount = 2;
                }
                rests++;
            }
        }
        return rests;
    }

    public int scourge(int what) {
        if (!isZeroOrOne(what)) {
            return NONE;
        }
        outlook.chooseScourge(told, now, DAYS_OF_WEEK);
        return chosen(what);
    }

    public int relief(int brother, int what) {
        if (!isBrother(brother) || !isZeroOrOne(what)) {
            return NONE;
        }
        outlook.chooseRelief(told, now, brother, DAYS_OF_WEEK);
        return chosen(what);
    }

    public int sorest() {
        return firstGreatest(now.lumps);
    }

    public int firmest() {
        return firstGreatest(now.firm);
    }

    public int due() {
        int bits = 0;
        for (int meeting = 0; meeting < told.meetings; meeting++) {
            if (told.takesPlace(now, meeting)) {
                bits |= 1 << meeting;
            }
        }
        return bits;
    }

    public int friends(int person) {
        return isPerson(person) ? circle.companyOf(told, now.forbidden, person) : NONE;
    }

    public int uncared() {
        int bits = told.allPeople();
        for (int brother = 0; brother < told.brothers; brother++) {
            for (int place = 0; place < told.roundSize[brother]; place++) {
                bits &= ~(1 << told.rounds[brother * MOST_PEOPLE + place]);
            }
        }
        return bits;
    }

    public int law(int n) {
        return isWithin(n, MOST_FIRM) ? outlook.hurtIfAllAre(told, now, n, DAYS_OF_WEEK) : NONE;
    }

    public int next(int meeting) {
        return isMeeting(meeting) ? outlook.daysTillMeeting(told, now, meeting, FAR_AHEAD) : NONE;
    }

    public int odds(int n, int part) {
        if (!isWithin(n, MOST_FLARING) || !isZeroOrOne(part)) {
            return NONE;
        }
        int calm = 100 - told.flares;
        int shared = greatestDivisor(100, calm);
        int one = (part == 0 ? calm : 100) / shared;
        int all = 1;
        for (int i = 0; i < n; i++) {
            all *= one;
        }
        return all;
    }

    public int lies(int i) {
        return i >= 0 && i < lyingCount ? lying[i] : NOTHING_LIES;
    }

    public int seen(int days, int person, int lumps, boolean is) {
        if (!isWithin(days, NEAR_AHEAD) || !isPerson(person) || !isWithin(lumps, MOST_LUMPS)) {
            return NONE;
        }
        return sightings.add(days, person, lumps, is);
    }

    public boolean untell(int seen) {
        return sightings.withdraw(seen);
    }

    public int later(int by) {
        return sightings.passTime(by);
    }

    public int fits(int k) {
        return Integer.bitCount(sightings.fitting(told, k));
    }

    public int sure(int what, int k) {
        if (!isZeroOrOne(what)) {
            return NONE;
        }
        int bits = sightings.fitting(told, k);
        int found = NONE;
        for (int firm = 0; firm <= MOST_FIRM; firm++) {
            boolean fitting = (bits >> firm & 1) == 1;
            if (fitting && (what == 1 || found == NONE)) {
                found = firm;
            }
        }
        return found;
    }

    public int ask(int days, int what, int k) {
        if (!isWithin(days, NEAR_AHEAD) || !isZeroOrOne(what)) {
            return NONE;
        }
        int bits = sightings.fitting(told, k);
        if (bits == 0) {
            return NONE;
        }
        int best = NONE;
        int fewest = MOST_FIRM + 2;
        for (int person = 0; person < told.people; person++) {
            int left = sightings.mostLeft(bits, days, person);
            if (left < fewest) {
                best = person;
                fewest = left;
            }
        }
        return what == 0 ? best : fewest;
    }

    public int image(int box) {
        if (!isBox(box)) {
            return NONE;
        }
        now.writeTo(boxes, box);
        boxesInUse |= 1 << box;
        return now.day;
    }

    public int back(int box) {
        if (!isBox(box) || (boxesInUse >> box & 1) == 0) {
            return NONE;
        }
        now.readFrom(boxes, box);
        ledger.restart(now);
        return now.day;
    }

    public int about(int what) {
        switch (what) {
            case 0:
                return told.people;
            case 1:
                return told.meetings;
            case 2:
                return told.brothers;
            case 3:
                return now.forbidden;
            case 4:
                return now.day;
            case 5:
                return now.seed;
            case 6:
                return ledger.undoable();
            case 7:
                return ledger.redoable();
            case 8:
                return sightings.count;
            case 9:
                return sightings.time;
            case 10:
                return tapeLength;
            case 11:
                return told.formula.units;
            case 12:
                return lyingCount;
            case 13:
                return told.bed;
            case 14:
                return told.flares;
            default:
                return NONE;
        }
    }

    private boolean isPerson(int person) {
        return person >= 0 && person < told.people;
    }

    private boolean isMeeting(int meeting) {
        return meeting >= 0 && meeting < told.meetings;
    }

    private boolean isBrother(int brother) {
        return brother >= 0 && brother < told.brothers;
    }

    private static boolean isBox(int box) {
        return box >= 0 && box < MOST_BOXES;
    }

    private static boolean isZeroOrOne(int what) {
        return what == 0 || what == 1;
    }

    private static boolean isWithin(int n, int most) {
        return n >= 0 && n <= most;
    }

    private void putFour(int number) {
        for (int shift = 24; shift >= 0 && tapeLength < MOST_BYTES; shift -= 8) {
            tape[tapeLength] = (byte) (number >> shift);
            tapeLength++;
        }
    }

    private int turnForbidden(int meeting) {
        now.forbidden ^= 1 << meeting;
        ledger.keepAct(now);
        return now.forbidden;
    }

    private int chosen(int what) {
        if (outlook.chosen == NONE) {
            return NONE;
        }
        return what == 0 ? outlook.chosen : outlook.chosenHurt;
    }

    private int firstGreatest(int[] ofEach) {
        int best = NONE;
        int most = -1;
        for (int person = 0; person < told.people && person < ofEach.length; person++) {
            if (ofEach[person] > most) {
                best = person;
                most = ofEach[person];
            }
        }
        return best;
    }

    private static int greatestDivisor(int a, int b) {
        int high = a;
        int low = b;
        for (int i = 0; i < 100 && low > 0; i++) {
            int rest = high % low;
            high = low;
            low = rest;
        }
        return Math.max(high, 1);
    }

    /** What acts change: who has how many lumps, who is how firm, what is forbidden, the day, the seed. */
    private static final class State {
        static final int CELLS = 2 * MOST_PEOPLE + 3;

        final int[] lumps = new int[MOST_PEOPLE];
        final int[] firm = new int[MOST_PEOPLE];
        int forbidden;
        int day;
        int seed;

        void setAsTold(Hamlet hamlet) {
            System.arraycopy(hamlet.lumps, 0, lumps, 0, MOST_PEOPLE);
            System.arraycopy(hamlet.firm, 0, firm, 0, MOST_PEOPLE);
            forbidden = 0;
            day = 0;
            seed = hamlet.draw;
        }

        void copyFrom(State from) {
            System.arraycopy(from.lumps, 0, lumps, 0, MOST_PEOPLE);
            System.arraycopy(from.firm, 0, firm, 0, MOST_PEOPLE);
            forbidden = from.forbidden;
            day = from.day;
            seed = from.seed;
        }

        // One flat row a state, so that forty kept states are one array and not eighty.
        void writeTo(int[] cells, int row) {
            int at = row * CELLS;
            if (at < 0 || at + CELLS > cells.length) {
                return;
            }
            System.arraycopy(lumps, 0, cells, at, MOST_PEOPLE);
            System.arraycopy(firm, 0, cells, at + MOST_PEOPLE, MOST_PEOPLE);
            cells[at + 2 * MOST_PEOPLE] = forbidden;
            cells[at + 2 * MOST_PEOPLE + 1] = day;
            cells[at + 2 * MOST_PEOPLE + 2] = seed;
        }

        void readFrom(int[] cells, int row) {
            int at = row * CELLS;
            if (at < 0 || at + CELLS > cells.length) {
                return;
            }
            System.arraycopy(cells, at, lumps, 0, MOST_PEOPLE);
            System.arraycopy(cells, at + MOST_PEOPLE, firm, 0, MOST_PEOPLE);
            forbidden = cells[at + 2 * MOST_PEOPLE];
            day = cells[at + 2 * MOST_PEOPLE + 1];
            seed = cells[at + 2 * MOST_PEOPLE + 2];
        }

        boolean isForbidden(int meeting) {
            return (forbidden >> meeting & 1) == 1;
        }
    }

    /** The states behind the acts that are kept, the oldest first, and where in them the present one is. */
    private static final class Ledger {
        private static final int MOST_ACTS = 40;

        private final int[] rows = new int[(MOST_ACTS + 1) * State.CELLS];
        private int at;
        private int top;

        void restart(State present) {
            at = 0;
            top = 0;
            present.writeTo(rows, 0);
        }

        void keepAct(State present) {
            if (at >= MOST_ACTS) {
                System.arraycopy(rows, State.CELLS, rows, 0, MOST_ACTS * State.CELLS);
                at = MOST_ACTS - 1;
            }
            at++;
            top = at;
            present.writeTo(rows, at);
        }

        boolean stepBack(State present) {
            if (at == 0) {
                return false;
            }
            at--;
            present.readFrom(rows, at);
            return true;
        }

        boolean stepOn(State present) {
            if (at >= top) {
                return false;
            }
            at++;
            present.readFrom(rows, at);
            return true;
        }

        int undoable() {
            return at;
        }

        int redoable() {
            return top - at;
        }
    }

    /** How many lumps a touch leaves, as steps over a stack of numbers: a step that is 0 or more is a number. */
    private static final class Formula {
        static final int OWN = -1;
        static final int OTHER = -2;
        static final int SORE = -3;
        static final int DAY = -4;
        static final int WEEK = -5;
        static final int NOT = -6;
        static final int OR = -7;
        static final int AND = -8;
        static final int LESS = -9;
        static final int MORE = -10;
        static final int ALIKE = -11;
        static final int PLUS = -12;
        static final int MINUS = -13;
        static final int TIMES = -14;
        static final int OVER = -15;
        static final int REST = -16;
        static final int MOST_UNITS = 30;
        static final int MOST_WITHIN = 7;
        private static final int MOST_LEFT = 20;
        // Each unit, an operator behind all but one of them, and as many nots ahead of each as may stand there.
        private static final int MOST_STEPS = MOST_UNITS * (2 + MOST_WITHIN);

        private final int[] steps = new int[MOST_STEPS];
        private final int[] stack = new int[MOST_UNITS];
        private int length;
        int units;

        void clear() {
            length = 0;
            units = 0;
        }

        void setUntold() {
            clear();
            add(9);
            add(OWN);
            add(MINUS);
        }

        void add(int step) {
            if (length < MOST_STEPS) {
                steps[length] = step;
                length++;
            }
        }

        int lumpsLeft(int own, int other, int sore, int day) {
            int top = 0;
            for (int i = 0; i < length; i++) {
                int step = steps[i];
                if (step >= WEEK) {
                    if (top >= MOST_UNITS) {
                        return 0;
                    }
                    stack[top] = step >= 0 ? step : known(step, own, other, sore, day);
                    top++;
                } else if (step == NOT) {
                    if (top < 1) {
                        return 0;
                    }
                    stack[top - 1] = stack[top - 1] == 0 ? 1 : 0;
                } else {
                    if (top < 2) {
                        return 0;
                    }
                    top--;
                    stack[top - 1] = joined(step, stack[top - 1], stack[top]);
                }
            }
            return top == 1 ? Math.max(0, Math.min(MOST_LEFT, stack[0])) : 0;
        }

        private static int known(int step, int own, int other, int sore, int day) {
            switch (step) {
                case OWN:
                    return own;
                case OTHER:
                    return other;
                case SORE:
                    return sore;
                case DAY:
                    return day;
                default:
                    return day / DAYS_OF_WEEK;
            }
        }

        private static int joined(int step, int a, int b) {
            switch (step) {
                case OR:
                    return a != 0 || b != 0 ? 1 : 0;
                case AND:
                    return a != 0 && b != 0 ? 1 : 0;
                case LESS:
                    return a < b ? 1 : 0;
                case MORE:
                    return a > b ? 1 : 0;
                case ALIKE:
                    return a == b ? 1 : 0;
                case PLUS:
                    return a + b;
                case MINUS:
                    return a - b;
                case TIMES:
                    return a * b;
                case OVER:
                    return b == 0 ? 0 : a / b;
                default:
                    return b == 0 ? 0 : a % b;
            }
        }
    }

    /** What a text tells, and what a day does by it. */
    private static final class Hamlet {
        private static final int BED_UNTOLD = 40;

        int people;
        final int[] firm = new int[MOST_PEOPLE];
        final int[] learns = new int[MOST_PEOPLE];
        final int[] lumps = new int[MOST_PEOPLE];
        int meetings;
        final int[] first = new int[MOST_MEETINGS];
        final int[] second = new int[MOST_MEETINGS];
        final int[] weekday = new int[MOST_MEETINGS];
        int brothers;
        final int[] cools = new int[MOST_BROTHERS];
        final int[] roundSize = new int[MOST_BROTHERS];
        final int[] rounds = new int[MOST_BROTHERS * MOST_PEOPLE];
        int bed;
        int flares;
        int draw;
        final Formula formula = new Formula();

        Hamlet() {
            clear();
        }

        void clear() {
            people = 0;
            meetings = 0;
            brothers = 0;
            bed = BED_UNTOLD;
            flares = 0;
            draw = 0;
            formula.setUntold();
        }

        int allPeople() {
            return (1 << people) - 1;
        }

        boolean liesAbed(State state, int person) {
            return state.lumps[person] >= bed;
        }

        int abedBits(State state) {
            int bits = 0;
            for (int person = 0; person < people; person++) {
                if (liesAbed(state, person)) {
                    bits |= 1 << person;
                }
            }
            return bits;
        }

        int allLumps(State state) {
            int sum = 0;
            for (int person = 0; person < people; person++) {
                sum += state.lumps[person];
            }
            return sum;
        }

        int allFirm(State state) {
            int sum = 0;
            for (int person = 0; person < people; person++) {
                sum += state.firm[person];
            }
            return sum;
        }

        boolean takesPlace(State state, int meeting) {
            return state.day % DAYS_OF_WEEK == weekday[meeting]
                && !state.isForbidden(meeting)
                && !liesAbed(state, first[meeting])
                && !liesAbed(state, second[meeting]);
        }

        void coolOne(State state, int brother, int person) {
            state.lumps[person] = Math.max(0, state.lumps[person] - cools[brother]);
        }

        /** The rounds come from outside so that another order can be tried without telling it. */
        int passDay(State state, int[] byRounds, boolean flaring) {
            int met = 0;
            for (int meeting = 0; meeting < meetings; meeting++) {
                if (takesPlace(state, meeting)) {
                    meet(state, first[meeting], second[meeting]);
                    met |= 1 << meeting;
                }
            }
            for (int brother = 0; brother < brothers; brother++) {
                if (roundSize[brother] > 0) {
                    int place = state.day % roundSize[brother];
                    coolOne(state, brother, byRounds[brother * MOST_PEOPLE + place]);
                }
            }
            if (flaring) {
                flare(state);
            }
            state.day++;
            return met;
        }

        private void meet(State state, int a, int b) {
            int firmA = state.firm[a];
            int firmB = state.firm[b];
            int onA = formula.lumpsLeft(firmA, firmB, state.lumps[a], state.day);
            int onB = formula.lumpsLeft(firmB, firmA, state.lumps[b], state.day);
            state.lumps[a] = Math.min(MOST_LUMPS, state.lumps[a] + onA);
            state.lumps[b] = Math.min(MOST_LUMPS, state.lumps[b] + onB);
            if (firmA < firmB) {
                state.firm[a] = Math.min(firmB, firmA + learns[a]);
            } else if (firmB < firmA) {
                state.firm[b] = Math.min(firmA, firmB + learns[b]);
            }
        }

        private void flare(State state) {
            for (int person = 0; person < people; person++) {
                if (state.lumps[person] > 0) {
                    state.seed = (state.seed * 137 + 71) % 1000;
                    if (state.seed % 100 < flares) {
                        state.lumps[person] = Math.min(MOST_LUMPS, state.lumps[person] + 1);
                    }
                }
            }
        }
    }

    /** Parts a text into tokens; the one at hand is in its fields. */
    private static final class Scanner {
        static final int END = 0;
        static final int NO_TOKEN = 1;
        static final int NUMBER = 2;
        static final int NAME = 3;
        static final int KEYWORD = 4;
        static final int SIGN = 5;

        static final int PERSON = 0;
        static final int FIRM = 1;
        static final int LEARNS = 2;
        static final int LUMPS = 3;
        static final int MEET = 4;
        static final int ON = 5;
        static final int BROTHER = 6;
        static final int COOLS = 7;
        static final int ROUND = 8;
        static final int BED = 9;
        static final int FLARES = 10;
        static final int DRAW = 11;
        static final int OR = 12;
        static final int AND = 13;
        static final int NOT = 14;
        static final int OWN = 15;
        static final int OTHER = 16;
        static final int SORE = 17;
        static final int DAY = 18;
        static final int WEEK = 19;
        private static final int KEYWORDS = 20;
        // In the order of the numbers above.
        private static final String SPELLINGS =
            "person firm learns lumps meet on brother cools round bed flares draw or and not own other sore day week ";
        private static final String SIGNS = ";()<>=+-*/%";
        private static final int MOST_LETTERS = 8;
        private static final int MOST_DIGITS = 4;

        private final long[] keywords = new long[KEYWORDS];
        private byte[] text = new byte[0];
        private int length;
        private int at;
        int kind;
        int value;
        long spelling;
        int place;

        Scanner() {
            int word = 0;
            for (int i = 0; i < SPELLINGS.length() && word < KEYWORDS; i++) {
                char letter = SPELLINGS.charAt(i);
                if (letter == ' ') {
                    word++;
                } else {
                    keywords[word] = spelledOn(keywords[word], letter);
                }
            }
        }

        void begin(byte[] tape, int tapeLength) {
            text = tape;
            length = Math.min(tapeLength, tape.length);
            at = 0;
            advance();
        }

        void advance() {
            while (at < length && (text[at] == ' ' || text[at] == 10)) {
                at++;
            }
            place = at;
            spelling = 0;
            while (at < length && text[at] >= 'a' && text[at] <= 'z') {
                spelling = spelledOn(spelling, text[at]);
                at++;
            }
            if (at > place) {
                takeWord();
                return;
            }
            value = 0;
            while (at < length && text[at] >= '0' && text[at] <= '9') {
                value = value * 10 + (text[at] - '0');
                at++;
            }
            if (at > place) {
                takeNumber();
            } else {
                takeSignOrEnd();
            }
        }

        boolean isKeyword(int word) {
            return kind == KEYWORD && value == word;
        }

        boolean isSign(char sign) {
            return kind == SIGN && value == sign;
        }

        private void takeWord() {
            if (at - place > MOST_LETTERS) {
                kind = NO_TOKEN;
                return;
            }
            kind = NAME;
            for (int word = 0; word < KEYWORDS; word++) {
                if (keywords[word] == spelling) {
                    kind = KEYWORD;
                    value = word;
                }
            }
        }

        private void takeNumber() {
            boolean letterBehind = at < length && text[at] >= 'a' && text[at] <= 'z';
            kind = at - place > MOST_DIGITS || letterBehind ? NO_TOKEN : NUMBER;
        }

        private void takeSignOrEnd() {
            if (at >= length) {
                kind = END;
                return;
            }
            value = text[at];
            kind = value > 0 && SIGNS.indexOf((char) value) >= 0 ? SIGN : NO_TOKEN;
            at++;
        }

        // Eight letters to the base of 27 fit a long, so a word is one number and is never kept as a text.
        private static long spelledOn(long spelling, int letter) {
            return spelling * 27 + (letter - 'a' + 1);
        }
    }

    /** Reads a text into a draft, so that a fault leaves the hamlet that was told as it is. */
    private static final class Parser {
        private static final int NO_TOKEN = 1;
        private static final int CANNOT_STAND = 2;
        private static final int TOLD_ALREADY = 3;
        private static final int CANNOT_BE = 4;
        private static final int UNKNOWN_NAME = 5;

        // How tightly an operator binds, the loosest first; a unit binds behind them all.
        private static final int EITHER = 0;
        private static final int BOTH = 1;
        private static final int RELATION = 2;
        private static final int SUM = 3;
        private static final int TERM = 4;

        private static final int NO_STEP = -100;
        private static final int MOST_LEARNS = 9;
        private static final int MOST_COOLS = 20;
        private static final int MOST_BED = 99;
        private static final int MOST_FLARES = 100;
        private static final int MOST_DRAW = 999;

        private final Scanner scanner = new Scanner();
        private final long[] personNames = new long[MOST_PEOPLE];
        private final long[] brotherNames = new long[MOST_BROTHERS];
        private Hamlet draft = new Hamlet();
        private int toldOnce;
        int faultKind;
        int faultPlace;

        boolean read(byte[] text, int length) {
            draft.clear();
            toldOnce = 0;
            faultKind = 0;
            faultPlace = NONE;
            scanner.begin(text, length);
            for (int lines = 0; lines <= MOST_BYTES && scanner.kind != Scanner.END; lines++) {
                if (!readLine()) {
                    return false;
                }
            }
            return true;
        }

        Hamlet swapDraft(Hamlet spare) {
            Hamlet ready = draft;
            draft = spare;
            return ready;
        }

        private boolean readLine() {
            if (scanner.kind != Scanner.KEYWORD) {
                return refuse();
            }
            switch (scanner.value) {
                case Scanner.PERSON:
                    return readPerson();
                case Scanner.MEET:
                    return readMeeting();
                case Scanner.BROTHER:
                    return readBrother();
                case Scanner.LUMPS:
                    return readFormula();
                case Scanner.BED:
                    draft.bed = readSetting(Scanner.BED, 1, MOST_BED);
                    return faultKind == 0;
                case Scanner.FLARES:
                    draft.flares = readSetting(Scanner.FLARES, 0, MOST_FLARES);
                    return faultKind == 0;
                case Scanner.DRAW:
                    draft.draw = readSetting(Scanner.DRAW, 0, MOST_DRAW);
                    return faultKind == 0;
                default:
                    return refuse();
            }
        }

        private boolean readPerson() {
            int person = draft.people;
            if (person >= MOST_PEOPLE) {
                return refuse();
            }
            scanner.advance();
            if (!readNewName(personNames, person)) {
                return false;
            }
            draft.firm[person] = readNumberBehind(Scanner.FIRM, 0, MOST_FIRM);
            draft.learns[person] =
                scanner.isKeyword(Scanner.LEARNS) ? readNumberBehind(Scanner.LEARNS, 0, MOST_LEARNS) : 0;
            draft.lumps[person] =
                scanner.isKeyword(Scanner.LUMPS) ? readNumberBehind(Scanner.LUMPS, 0, MOST_LUMPS) : 0;
            draft.people++;
            return readLineEnd();
        }

        private boolean readMeeting() {
            int meeting = draft.meetings;
            if (meeting >= MOST_MEETINGS) {
                return refuse();
            }
            scanner.advance();
            int first = readPersonNotIn(0);
            if (first == NONE) {
                return false;
            }
            int second = readPersonNotIn(1 << first);
            if (second == NONE) {
                return false;
            }
            draft.first[meeting] = first;
            draft.second[meeting] = second;
            draft.weekday[meeting] = readNumberBehind(Scanner.ON, 0, DAYS_OF_WEEK - 1);
            draft.meetings++;
            return readLineEnd();
        }

        private boolean readBrother() {
            int brother = draft.brothers;
            if (brother >= MOST_BROTHERS) {
                return refuse();
            }
            scanner.advance();
            if (!readNewName(brotherNames, brother)) {
                return false;
            }
            draft.cools[brother] = readNumberBehind(Scanner.COOLS, 1, MOST_COOLS);
            draft.brothers++;
            return readKeyword(Scanner.ROUND) && readRound(brother) && readLineEnd();
        }

        private boolean readRound(int brother) {
            int inRound = 0;
            int size = 0;
            do {
                int person = readPersonNotIn(inRound);
                if (person == NONE || size >= MOST_PEOPLE) {
                    return false;
                }
                inRound |= 1 << person;
                draft.rounds[brother * MOST_PEOPLE + size] = person;
                size++;
            } while (scanner.kind == Scanner.NAME);
            draft.roundSize[brother] = size;
            return true;
        }

        private boolean readFormula() {
            if (!isFirstTime(Scanner.LUMPS)) {
                return refuse();
            }
            scanner.advance();
            draft.formula.clear();
            return readChain(EITHER, 0) && readLineEnd();
        }

        private int readSetting(int word, int least, int most) {
            if (!isFirstTime(word)) {
                refuse();
                return NONE;
            }
            int number = readNumberBehind(word, least, most);
            readLineEnd();
            return number;
        }

        private boolean isFirstTime(int word) {
            boolean isFirst = (toldOnce >> word & 1) == 0;
            toldOnce |= 1 << word;
            return isFirst;
        }

        /** Within: in how many units in brackets, or ones behind a not, this stands. */
        private boolean readChain(int level, int within) {
            if (level > TERM) {
                return readUnit(within);
            }
            if (level == RELATION && scanner.isKeyword(Scanner.NOT)) {
                return readNot(within);
            }
            boolean good = readChain(level + 1, within);
            for (int i = 0; good && i < Formula.MOST_UNITS; i++) {
                int step = operatorAt(level);
                // A relation takes one more sum, and no further relation can stand behind it.
                if (step == NO_STEP || level == RELATION && i > 0) {
                    return true;
                }
                scanner.advance();
                good = readChain(level + 1, within);
                draft.formula.add(step);
            }
            return good;
        }

        private boolean readNot(int within) {
            if (within >= Formula.MOST_WITHIN) {
                return refuse();
            }
            scanner.advance();
            boolean good = readChain(RELATION, within + 1);
            draft.formula.add(Formula.NOT);
            return good;
        }

        private boolean readUnit(int within) {
            boolean isBracket = scanner.isSign('(');
            int step = unitAt();
            if (!isBracket && step == NO_STEP) {
                return refuse();
            }
            if (draft.formula.units >= Formula.MOST_UNITS || isBracket && within >= Formula.MOST_WITHIN) {
                return refuse();
            }
            draft.formula.units++;
            scanner.advance();
            if (!isBracket) {
                draft.formula.add(step);
                return true;
            }
            if (!readChain(EITHER, within + 1)) {
                return false;
            }
            if (!scanner.isSign(')')) {
                return refuse();
            }
            scanner.advance();
            return true;
        }

        private int unitAt() {
            if (scanner.kind == Scanner.NUMBER) {
                return scanner.value;
            }
            if (scanner.kind != Scanner.KEYWORD) {
                return NO_STEP;
            }
            switch (scanner.value) {
                case Scanner.OWN:
                    return Formula.OWN;
                case Scanner.OTHER:
                    return Formula.OTHER;
                case Scanner.SORE:
                    return Formula.SORE;
                case Scanner.DAY:
                    return Formula.DAY;
                case Scanner.WEEK:
                    return Formula.WEEK;
                default:
                    return NO_STEP;
            }
        }

        private int operatorAt(int level) {
            if (scanner.kind == Scanner.KEYWORD) {
                if (level == EITHER && scanner.value == Scanner.OR) {
                    return Formula.OR;
                }
                return level == BOTH && scanner.value == Scanner.AND ? Formula.AND : NO_STEP;
            }
            if (scanner.kind != Scanner.SIGN) {
                return NO_STEP;
            }
            switch (scanner.value) {
                case '<':
                    return level == RELATION ? Formula.LESS : NO_STEP;
                case '>':
                    return level == RELATION ? Formula.MORE : NO_STEP;
                case '=':
                    return level == RELATION ? Formula.ALIKE : NO_STEP;
                case '+':
                    return level == SUM ? Formula.PLUS : NO_STEP;
                case '-':
                    return level == SUM ? Formula.MINUS : NO_STEP;
                case '*':
                    return level == TERM ? Formula.TIMES : NO_STEP;
                case '/':
                    return level == TERM ? Formula.OVER : NO_STEP;
                case '%':
                    return level == TERM ? Formula.REST : NO_STEP;
                default:
                    return NO_STEP;
            }
        }

        private boolean readNewName(long[] names, int count) {
            if (scanner.kind != Scanner.NAME) {
                return refuse();
            }
            if (indexOf(names, count) != NONE) {
                return setFault(TOLD_ALREADY);
            }
            names[count] = scanner.spelling;
            scanner.advance();
            return true;
        }

        private int readPersonNotIn(int taken) {
            if (scanner.kind != Scanner.NAME) {
                refuse();
                return NONE;
            }
            int person = indexOf(personNames, draft.people);
            if (person == NONE) {
                setFault(UNKNOWN_NAME);
                return NONE;
            }
            if ((taken >> person & 1) == 1) {
                setFault(TOLD_ALREADY);
                return NONE;
            }
            scanner.advance();
            return person;
        }

        private int indexOf(long[] names, int count) {
            for (int i = 0; i < count && i < names.length; i++) {
                if (names[i] == scanner.spelling) {
                    return i;
                }
            }
            return NONE;
        }

        // A fault that is set already stays the first one, so a line's parts may be read one behind another.
        private int readNumberBehind(int word, int least, int most) {
            if (!readKeyword(word)) {
                return NONE;
            }
            if (scanner.kind != Scanner.NUMBER) {
                refuse();
                return NONE;
            }
            if (scanner.value < least || scanner.value > most) {
                setFault(CANNOT_BE);
                return NONE;
            }
            int number = scanner.value;
            scanner.advance();
            return number;
        }

        private boolean readKeyword(int word) {
            if (!scanner.isKeyword(word)) {
                return refuse();
            }
            scanner.advance();
            return faultKind == 0;
        }

        private boolean readLineEnd() {
            if (!scanner.isSign(';')) {
                return refuse();
            }
            scanner.advance();
            return faultKind == 0;
        }

        private boolean refuse() {
            return setFault(scanner.kind == Scanner.NO_TOKEN ? NO_TOKEN : CANNOT_STAND);
        }

        private boolean setFault(int kind) {
            if (faultKind == 0) {
                faultKind = kind;
                faultPlace = scanner.place;
            }
            return false;
        }
    }

    /** What lies ahead, tried on a copy, without flares if not told otherwise. */
    private static final class Outlook {
        private static final int FIRMER_IN_DUEL = 5;

        private final State ahead = new State();
        private final int[] triedRounds = new int[MOST_BROTHERS * MOST_PEOPLE];
        int chosen;
        int chosenHurt;

        int lumpsBehind(Hamlet hamlet, State now, int person, int days, boolean flaring) {
            ahead.copyFrom(now);
            for (int i = 0; i < days; i++) {
                hamlet.passDay(ahead, hamlet.rounds, flaring);
            }
            return ahead.lumps[person];
        }

        int firmBehind(Hamlet hamlet, State now, int person, int days) {
            ahead.copyFrom(now);
            goOn(hamlet, hamlet.rounds, days);
            return ahead.firm[person];
        }

        int hurtBehind(Hamlet hamlet, State now, int days) {
            ahead.copyFrom(now);
            return goOn(hamlet, hamlet.rounds, days);
        }

        int daysTillAbed(Hamlet hamlet, State now, int person, int most) {
            ahead.copyFrom(now);
            return goOnTillAbed(hamlet, 1 << person, most);
        }

        int leastToForbid(Hamlet hamlet, State now, int days) {
            for (int size = 0; size <= hamlet.meetings; size++) {
                for (int set = 0; set < 1 << hamlet.meetings; set++) {
                    if (Integer.bitCount(set) == size && (set & now.forbidden) == 0) {
                        ahead.copyFrom(now);
                        ahead.forbidden |= set;
                        if (goOnTillAbed(hamlet, hamlet.allPeople(), days) == NONE) {
                            return set;
                        }
                    }
                }
            }
            return NONE;
        }

        int bestOrder(Hamlet hamlet, State now, int brother, int days, int[] order) {
            int from = brother * MOST_PEOPLE;
            int size = hamlet.roundSize[brother];
            System.arraycopy(hamlet.rounds, 0, triedRounds, 0, triedRounds.length);
            sortFromLeast(from, size);
            int least = Integer.MAX_VALUE;
            boolean more = true;
            // Six people have 720 orders.
            for (int i = 0; more && i < 720; i++) {
                ahead.copyFrom(now);
                int hurt = goOn(hamlet, triedRounds, days);
                if (hurt < least) {
                    least = hurt;
                    System.arraycopy(triedRounds, from, order, 0, Math.min(size, order.length));
                }
                more = turnToNextOrder(from, size);
            }
            return least;
        }

        int leastGrip(Hamlet hamlet, State now, int person, int days) {
            for (int firm = 0; firm <= MOST_FIRM; firm++) {
                ahead.copyFrom(now);
                ahead.firm[person] = firm;
                if (goOnTillAbed(hamlet, 1 << person, days) == NONE) {
                    return firm;
                }
            }
            return NONE;
        }

        void choosePupil(Hamlet hamlet, State now, int days) {
            chosen = NONE;
            for (int person = 0; person < hamlet.people; person++) {
                if (now.firm[person] < MOST_FIRM) {
                    ahead.copyFrom(now);
                    ahead.firm[person]++;
                    weigh(person, goOn(hamlet, hamlet.rounds, days));
                }
            }
        }

        void chooseScourge(Hamlet hamlet, State now, int days) {
            chosen = NONE;
            for (int person = 0; person < hamlet.people; person++) {
                ahead.copyFrom(now);
                for (int meeting = 0; meeting < hamlet.meetings; meeting++) {
                    if (hamlet.first[meeting] == person || hamlet.second[meeting] == person) {
                        ahead.forbidden |= 1 << meeting;
                    }
                }
                weigh(person, goOn(hamlet, hamlet.rounds, days));
            }
        }

        void chooseRelief(Hamlet hamlet, State now, int brother, int days) {
            chosen = NONE;
            for (int person = 0; person < hamlet.people; person++) {
                ahead.copyFrom(now);
                hamlet.coolOne(ahead, brother, person);
                weigh(person, goOn(hamlet, hamlet.rounds, days));
            }
        }

        int hurtIfAllAre(Hamlet hamlet, State now, int firm, int days) {
            ahead.copyFrom(now);
            Arrays.fill(ahead.firm, firm);
            return goOn(hamlet, hamlet.rounds, days);
        }

        int daysTillMeeting(Hamlet hamlet, State now, int meeting, int most) {
            ahead.copyFrom(now);
            for (int days = 1; days <= most; days++) {
                int met = hamlet.passDay(ahead, hamlet.rounds, false);
                if ((met >> meeting & 1) == 1) {
                    return days;
                }
            }
            return NONE;
        }

        int daysTillSettled(Hamlet hamlet, State now, int most) {
            ahead.copyFrom(now);
            int settledSince = 0;
            int before = hamlet.allFirm(ahead);
            for (int days = 1; days <= most + DAYS_OF_WEEK; days++) {
                hamlet.passDay(ahead, hamlet.rounds, false);
                // Days never make anybody less firm, so the sum tells whether anybody has changed.
                int behind = hamlet.allFirm(ahead);
                if (behind != before) {
                    before = behind;
                    settledSince = days;
                }
                if (days - settledSince == DAYS_OF_WEEK) {
                    return settledSince;
                }
            }
            return NONE;
        }

        boolean isRest(Hamlet hamlet, State now, int meeting, int firstWay, int secondWay) {
            int a = hamlet.first[meeting];
            int b = hamlet.second[meeting];
            return worth(hamlet, now, a, b, firstWay, secondWay) >= worth(hamlet, now, a, b, 1 - firstWay, secondWay)
                && worth(hamlet, now, b, a, secondWay, firstWay) >= worth(hamlet, now, b, a, 1 - secondWay, firstWay);
        }

        private static int worth(Hamlet hamlet, State now, int own, int other, int ownWay, int otherWay) {
            int ownFirm = Math.min(MOST_FIRM, now.firm[own] + ownWay * FIRMER_IN_DUEL);
            int otherFirm = Math.min(MOST_FIRM, now.firm[other] + otherWay * FIRMER_IN_DUEL);
            return -hamlet.formula.lumpsLeft(ownFirm, otherFirm, now.lumps[own], now.day) - ownWay;
        }

        private int goOn(Hamlet hamlet, int[] rounds, int days) {
            for (int i = 0; i < days; i++) {
                hamlet.passDay(ahead, rounds, false);
            }
            return hamlet.allLumps(ahead);
        }

        private int goOnTillAbed(Hamlet hamlet, int watched, int most) {
            for (int days = 0; days <= most; days++) {
                if ((hamlet.abedBits(ahead) & watched) != 0) {
                    return days;
                }
                if (days < most) {
                    hamlet.passDay(ahead, hamlet.rounds, false);
                }
            }
            return NONE;
        }

        private void weigh(int person, int hurt) {
            if (chosen == NONE || hurt < chosenHurt) {
                chosen = person;
                chosenHurt = hurt;
            }
        }

        private void sortFromLeast(int from, int size) {
            for (int i = from; i < from + size; i++) {
                for (int j = i + 1; j < from + size; j++) {
                    if (triedRounds[j] < triedRounds[i]) {
                        swapTried(i, j);
                    }
                }
            }
        }

        private boolean turnToNextOrder(int from, int size) {
            int low = from + size - 2;
            while (low >= from && triedRounds[low] > triedRounds[low + 1]) {
                low--;
            }
            if (low < from) {
                return false;
            }
            int high = from + size - 1;
            while (high > low && triedRounds[high] < triedRounds[low]) {
                high--;
            }
            swapTried(low, high);
            for (int i = low + 1, j = from + size - 1; i < j; i++, j--) {
                swapTried(i, j);
            }
            return true;
        }

        private void swapTried(int i, int j) {
            int kept = triedRounds[i];
            triedRounds[i] = triedRounds[j];
            triedRounds[j] = kept;
        }
    }

    /** Who has to do with whom, by the meetings that are not forbidden. */
    private static final class Circle {
        private final int[] company = new int[MOST_PEOPLE];

        int companyOf(Hamlet hamlet, int forbidden, int person) {
            int bits = 0;
            for (int meeting = 0; meeting < hamlet.meetings; meeting++) {
                if ((forbidden >> meeting & 1) == 0) {
                    if (hamlet.first[meeting] == person) {
                        bits |= 1 << hamlet.second[meeting];
                    }
                    if (hamlet.second[meeting] == person) {
                        bits |= 1 << hamlet.first[meeting];
                    }
                }
            }
            return bits;
        }

        int stepsBetween(Hamlet hamlet, int forbidden, int from, int to) {
            int reached = 1 << from;
            for (int steps = 0; steps < hamlet.people; steps++) {
                if ((reached >> to & 1) == 1) {
                    return steps;
                }
                int further = reached;
                for (int person = 0; person < hamlet.people; person++) {
                    if ((reached >> person & 1) == 1) {
                        further |= companyOf(hamlet, forbidden, person);
                    }
                }
                reached = further;
            }
            return NONE;
        }

        int fewestGroups(Hamlet hamlet, int forbidden, int[] groups) {
            for (int person = 0; person < hamlet.people; person++) {
                company[person] = companyOf(hamlet, forbidden, person);
            }
            for (int count = 0; count < hamlet.people; count++) {
                if (isParted(0, hamlet.people, count, groups)) {
                    return count;
                }
            }
            // Each one in a group of his own always goes, and nobody at all needs none.
            isParted(0, hamlet.people, hamlet.people, groups);
            return hamlet.people;
        }

        // The least group is tried first, person by person, so the first parting found is the first of all.
        private boolean isParted(int person, int people, int count, int[] groups) {
            if (person >= people || person >= groups.length) {
                return true;
            }
            for (int group = 0; group < count; group++) {
                if (isFree(person, group, groups)) {
                    groups[person] = group;
                    if (isParted(person + 1, people, count, groups)) {
                        return true;
                    }
                }
            }
            return false;
        }

        private boolean isFree(int person, int group, int[] groups) {
            for (int before = 0; before < person; before++) {
                if (groups[before] == group && (company[person] >> before & 1) == 1) {
                    return false;
                }
            }
            return true;
        }
    }

    /** What is seen, when it was told and untold, and how firm the last one may have been by it. */
    private static final class Sightings {
        private static final int MOST_SEEN = 30;
        private static final int MOST_TIME = 100000;
        private static final int MOST_STEP = 1000;

        private final int[] days = new int[MOST_SEEN];
        private final int[] who = new int[MOST_SEEN];
        private final int[] atLeast = new int[MOST_SEEN];
        private final boolean[] was = new boolean[MOST_SEEN];
        private final int[] toldAt = new int[MOST_SEEN];
        private final int[] untoldAt = new int[MOST_SEEN];
        // Lumps by how firm the last one was, day and person: filled once a hamlet, when first asked for.
        private final byte[] chart = new byte[(MOST_FIRM + 1) * (NEAR_AHEAD + 1) * MOST_PEOPLE];
        private boolean isCharted;
        private final int[] alike = new int[MOST_LUMPS + 1];
        private final State past = new State();
        int count;
        int time;

        void forget() {
            count = 0;
            isCharted = false;
        }

        int add(int behind, int person, int lumps, boolean is) {
            if (count >= MOST_SEEN) {
                return NONE;
            }
            days[count] = behind;
            who[count] = person;
            atLeast[count] = lumps;
            was[count] = is;
            toldAt[count] = time;
            untoldAt[count] = NONE;
            count++;
            return count - 1;
        }

        boolean withdraw(int number) {
            if (number < 0 || number >= count || untoldAt[number] != NONE) {
                return false;
            }
            untoldAt[number] = time;
            return true;
        }

        int passTime(int by) {
            if (by < 0 || by > MOST_STEP || time + by > MOST_TIME) {
                return NONE;
            }
            time += by;
            return time;
        }

        /** The firmnesses by which all is so that counts as known at k, as bits. */
        int fitting(Hamlet hamlet, int k) {
            if (hamlet.people == 0) {
                return 0;
            }
            fillChart(hamlet);
            int bits = 0;
            for (int firm = 0; firm <= MOST_FIRM; firm++) {
                if (agrees(firm, k)) {
                    bits |= 1 << firm;
                }
            }
            return bits;
        }

        /** Of the fitting ones, the most that have the same lumps then: what the worst answer would leave. */
        int mostLeft(int fitting, int behind, int person) {
            Arrays.fill(alike, 0);
            int most = 0;
            for (int firm = 0; firm <= MOST_FIRM; firm++) {
                if ((fitting >> firm & 1) == 1) {
                    int lumps = chart[cell(firm, behind, person)];
                    alike[lumps]++;
                    most = Math.max(most, alike[lumps]);
                }
            }
            return most;
        }

        private boolean agrees(int firm, int k) {
            for (int i = 0; i < count; i++) {
                if (countsAt(i, k) && chart[cell(firm, days[i], who[i])] >= atLeast[i] != was[i]) {
                    return false;
                }
            }
            return true;
        }

        private boolean countsAt(int number, int k) {
            boolean isUntold = untoldAt[number] != NONE && untoldAt[number] <= k;
            return toldAt[number] <= k && !isUntold;
        }

        private void fillChart(Hamlet hamlet) {
            if (isCharted) {
                return;
            }
            for (int firm = 0; firm <= MOST_FIRM; firm++) {
                past.setAsTold(hamlet);
                past.firm[hamlet.people - 1] = firm;
                for (int behind = 0; behind <= NEAR_AHEAD; behind++) {
                    for (int person = 0; person < hamlet.people; person++) {
                        chart[cell(firm, behind, person)] = (byte) past.lumps[person];
                    }
                    hamlet.passDay(past, hamlet.rounds, false);
                }
            }
            isCharted = true;
        }

        private static int cell(int firm, int behind, int person) {
            return (firm * (NEAR_AHEAD + 1) + behind) * MOST_PEOPLE + person;
        }
    }
}
