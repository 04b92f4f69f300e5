import java.util.Arrays;

/**
 * A hall of decisions: rules by which sets of members carry, told as texts, and what follows from
 * them for members, motions, blocs and posts. A set is a number in which x counts 2 to the x.
 *
 * All rows are made in the constructors and used again, so that no call makes anything.
 */
public final class DivisionHall {
    public static final int NONE = -1;

    private static final int MEMBERS = 10;
    private static final int BLOCS = 6;
    private static final int MOTIONS = 6;
    private static final int POSTS = 8;
    private static final int RULES = 4;
    private static final int DAYS = 1000;
    /** Weights, places and values are 0 .. 99. */
    private static final int AMOUNTS = 100;
    private static final int MOST_SHIFTS = 200;
    private static final int MOST_BYTES = 400;
    private static final int BYTES_FED = 20;

    private static final int SETS = 1 << MEMBERS;
    private static final int BLOC_SETS = 1 << BLOCS;
    private static final int MOTION_SETS = 1 << MOTIONS;
    private static final int POST_SETS = 1 << POSTS;

    private final Log log;
    private final Seats seats;
    private final Seats otherSeats;
    private final Reader reader;
    private final Rule[] rules;
    private final Leasts leasts;
    private final Trader trader;
    private final Motions motions;
    private final Line line;
    private final Dealer dealer;
    private int members;
    private int viewDay;
    private int viewKnown;

    public DivisionHall() {
        log = new Log();
        seats = new Seats();
        otherSeats = new Seats();
        reader = new Reader();
        rules = new Rule[RULES];
        for (int r = 0; r < RULES; r++) {
            rules[r] = new Rule();
        }
        leasts = new Leasts();
        trader = new Trader();
        motions = new Motions();
        line = new Line();
        dealer = new Dealer();
        viewDay = DAYS - 1;
        viewKnown = DAYS - 1;
    }

    public int member() {
        if (members >= MEMBERS) {
            return NONE;
        }
        members++;
        return members - 1;
    }

    public boolean shift(int m, int day, int weight, int bloc, int told) {
        boolean can = inside(m, members) && inside(day, DAYS) && inside(weight, AMOUNTS)
            && (bloc == NONE || inside(bloc, BLOCS)) && inside(told, DAYS);
        if (!can || told < log.lastTold() || log.count >= MOST_SHIFTS) {
            return false;
        }
        log.add(m, day, weight, bloc, told);
        seatAnew();
        return true;
    }

    public boolean view(int day, int known) {
        if (!inside(day, DAYS) || !inside(known, DAYS)) {
            return false;
        }
        viewDay = day;
        viewKnown = known;
        seatAnew();
        return true;
    }

    public int of(int m, int what) {
        if (!inside(m, members)) {
            return NONE;
        }
        if (what == 2) {
            return motions.firstOf(m);
        }
        if (!has(seats.in, m)) {
            return NONE;
        }
        return what == 0 ? seats.weightOf(1 << m) : what == 1 ? seats.blocOf(m) : NONE;
    }

    public int look(int what) {
        switch (what) {
            case 0: return members;
            case 1: return seats.in;
            case 2: return log.count;
            case 3: return seats.blocs();
            case 4: return viewDay;
            case 5: return viewKnown;
            default: return NONE;
        }
    }

    public int feed(int a, int b, int c, int d, int e) {
        if (reader.length + BYTES_FED > MOST_BYTES) {
            return NONE;
        }
        reader.put(a);
        reader.put(b);
        reader.put(c);
        reader.put(d);
        reader.put(e);
        return reader.length;
    }

    public boolean end(int n) {
        if (n < 0 || n > reader.length) {
            return false;
        }
        reader.length = n;
        return true;
    }

    public boolean rule(int r) {
        if (!inside(r, RULES)) {
            // The fault is that of the latest rule() of 0 .. 3, so the tape is not read here.
            reader.length = 0;
            return false;
        }
        reader.read();
        reader.length = 0;
        if (reader.fault != 0) {
            return false;
        }
        rules[r].become(reader);
        return true;
    }

    public int fault(int what) {
        return what == 0 ? reader.fault : what == 1 ? reader.faultPlace : NONE;
    }

    public int carries(int r, int set) {
        if (!inside(r, RULES) || !isWithin(set, seats.in)) {
            return NONE;
        }
        return rules[r].passes(set, seats) ? 1 : 0;
    }

    public int leasts(int r, int what) {
        return findLeasts(r, what) ? leasts.count : NONE;
    }

    public int least(int r, int what, int i) {
        return findLeasts(r, what) ? leasts.at(i) : NONE;
    }

    public long power(int r, int m, int what) {
        Table table = tableOf(r);
        if (table == null || !inside(m, members) || !has(seats.in, m)) {
            return NONE;
        }
        switch (what) {
            case 0: return table.swings(m);
            case 1: return reduced(table.swings(m), table.setsWithoutOne());
            case 2: return reduced(table.setsWithoutOne(), table.swings(m));
            case 3: return reduced(table.turns(m), table.orders());
            case 4: return reduced(table.orders(), table.turns(m));
            default: return NONE;
        }
    }

    public int odd(int r, int what) {
        Table table = tableOf(r);
        if (table == null || !inside(what, 2)) {
            return NONE;
        }
        int set = table.oddSet();
        if (set == NONE) {
            return NONE;
        }
        return what == 0 ? set : table.spoiler(set);
    }

    public int worth(int r, int i, int j) {
        Table table = tableOf(r);
        if (table == null || i == j || !inside(i, members) || !inside(j, members)
            || !has(seats.in, i) || !has(seats.in, j)) {
            return NONE;
        }
        return (table.noLess(i, j) ? 1 : 0) + (table.noLess(j, i) ? 2 : 0);
    }

    public int trade(int r, int what) {
        Table table = tableOf(r);
        if (table == null || !inside(what, Table.SIDES)) {
            return NONE;
        }
        if (!table.tradeSought) {
            trader.seek(table);
        }
        return table.trade[what];
    }

    public int days(int r, int set, int a, int b, int k) {
        if (!inside(r, RULES) || !isWithin(set, (1 << members) - 1) || a < 0 || b < a || b >= DAYS
            || !inside(k, DAYS)) {
            return NONE;
        }
        int sum = 0;
        int day = a;
        for (int n = 0; n <= MOST_SHIFTS && day <= b; n++) {
            // nothing changes between two days from which shifts count, so they are asked as one
            int next = Math.min(log.dayBehind(day), b + 1);
            log.seat(otherSeats, day, k);
            if (rules[r].holds(set & otherSeats.in, otherSeats)) {
                sum += next - day;
            }
            day = next;
        }
        return sum;
    }

    public boolean wish(int m, int order) {
        if (!inside(m, members)) {
            return false;
        }
        if (order == NONE) {
            motions.drop(m);
            return true;
        }
        return motions.take(m, order);
    }

    public int support(int a, int b) {
        if (!inside(a, MOTIONS) || !inside(b, MOTIONS) || a == b) {
            return NONE;
        }
        return motions.ahead(a, b) & seats.in;
    }

    public int agenda(int r, int digits, boolean sight) {
        if (!inside(r, RULES) || !motions.fromDigits(digits)) {
            return NONE;
        }
        motions.compare(rules[r], seats);
        return motions.outcome(sight);
    }

    public int through(int r, int set, int x, boolean sight, int what) {
        if (!inside(r, RULES) || !inside(set, MOTION_SETS) || !inside(x, MOTIONS) || !has(set, x)
            || !inside(what, 2)) {
            return NONE;
        }
        motions.compare(rules[r], seats);
        return what == 0 ? motions.ordersFor(x, set, sight) : motions.firstFor(x, set, sight);
    }

    public int best(int r, int set) {
        if (!inside(r, RULES) || !inside(set, MOTION_SETS)) {
            return NONE;
        }
        motions.compare(rules[r], seats);
        return motions.beatsAll(set);
    }

    public boolean line(int b, int place) {
        if (!inside(b, BLOCS) || !inside(place, AMOUNTS)) {
            return false;
        }
        line.place[b] = place;
        return true;
    }

    public int coalition(int r, int what) {
        if (!inside(r, RULES)) {
            return NONE;
        }
        line.seek(rules[r], seats);
        switch (what) {
            case 0: return line.bestSet;
            case 1: return line.bestSpan;
            case 2: return line.bestWeight;
            case 3: return line.count;
            default: return NONE;
        }
    }

    public boolean value(int p, int b, int v) {
        if (!inside(p, POSTS) || !inside(b, BLOCS) || !inside(v, AMOUNTS)) {
            return false;
        }
        dealer.price(p, b, v);
        return true;
    }

    public int deal(int coalition, int posts, int way, boolean sight, int what) {
        if (coalition == 0 || !inside(coalition, BLOC_SETS) || !inside(posts, POST_SETS)
            || !inside(way, 2) || !dealer.weigh(coalition, seats)) {
            return NONE;
        }
        dealer.queueUp(coalition, Integer.bitCount(posts), way);
        dealer.handOut(coalition, posts, sight);
        if (what < 10) {
            return dealer.ownerOf(what);
        }
        return what < 20 ? dealer.heldBy(what - 10) : dealer.chooserAt(what - 20);
    }

    private void seatAnew() {
        log.seat(seats, viewDay, viewKnown);
        for (int r = 0; r < RULES; r++) {
            rules[r].table.fresh = false;
        }
    }

    private Table tableOf(int r) {
        if (!inside(r, RULES)) {
            return null;
        }
        rules[r].tabulate(seats);
        return rules[r].table;
    }

    private boolean findLeasts(int r, int what) {
        Table table = tableOf(r);
        if (table == null || !inside(what, 2)) {
            return false;
        }
        leasts.seek(table, what == 1);
        return true;
    }

    private static boolean inside(int i, int count) {
        return i >= 0 && i < count;
    }

    private static boolean has(int set, int i) {
        return (set >> i & 1) != 0;
    }

    private static boolean isWithin(int set, int whole) {
        return (set & ~whole) == 0;
    }

    /** The first number without what it has in common with the second. */
    private static long reduced(long number, long by) {
        long a = number;
        long b = by;
        for (int n = 0; n < 100 && b != 0; n++) {
            long rest = a % b;
            a = b;
            b = rest;
        }
        return a == 0 ? 0 : number / a;
    }

    /** How all members are on one day, as known on one day. */
    private static final class Seats {
        private final int[] weight = new int[MEMBERS];
        private final int[] membersOf = new int[BLOCS];
        private int in;
        private int all;

        void clear() {
            Arrays.fill(weight, 0);
            Arrays.fill(membersOf, 0);
            in = 0;
            all = 0;
        }

        void put(int m, int w, int b) {
            if (inside(m, MEMBERS) && inside(b, BLOCS)) {
                weight[m] = w;
                membersOf[b] |= 1 << m;
                in |= 1 << m;
                all += w;
            }
        }

        int ofBloc(int b) {
            return b >= 0 && b < BLOCS ? membersOf[b] : 0;
        }

        int blocOf(int m) {
            for (int b = 0; b < BLOCS; b++) {
                if (has(membersOf[b], m)) {
                    return b;
                }
            }
            return NONE;
        }

        /** The blocs that have members in, as a set. */
        int blocs() {
            int set = 0;
            for (int b = 0; b < BLOCS; b++) {
                if (membersOf[b] != 0) {
                    set |= 1 << b;
                }
            }
            return set;
        }

        int ofBlocs(int blocs) {
            int set = 0;
            for (int b = 0; b < BLOCS; b++) {
                if (has(blocs, b)) {
                    set |= membersOf[b];
                }
            }
            return set;
        }

        int weightOf(int set) {
            int sum = 0;
            for (int m = 0; m < MEMBERS; m++) {
                if ((set >> m & 1) != 0) {
                    sum += weight[m];
                }
            }
            return sum;
        }
    }

    /** The shifts in the order in which they were told. */
    private static final class Log {
        private final int[] member = new int[MOST_SHIFTS];
        private final int[] day = new int[MOST_SHIFTS];
        private final int[] weight = new int[MOST_SHIFTS];
        private final int[] bloc = new int[MOST_SHIFTS];
        private final int[] told = new int[MOST_SHIFTS];
        private final int[] latest = new int[MEMBERS];
        private int count;

        int lastTold() {
            return inside(count - 1, MOST_SHIFTS) ? told[count - 1] : 0;
        }

        void add(int m, int from, int w, int b, int on) {
            if (!inside(count, MOST_SHIFTS)) {
                return;
            }
            member[count] = m;
            day[count] = from;
            weight[count] = w;
            bloc[count] = b;
            told[count] = on;
            count++;
        }

        void seat(Seats seats, int on, int known) {
            Arrays.fill(latest, NONE);
            for (int i = 0; i < count && i < MOST_SHIFTS; i++) {
                if (told[i] <= known && day[i] <= on) {
                    keepLatest(i);
                }
            }
            seats.clear();
            for (int m = 0; m < MEMBERS; m++) {
                int i = latest[m];
                if (inside(i, MOST_SHIFTS)) {
                    // one that is out has no bloc, and put() takes none such
                    seats.put(m, weight[i], bloc[i]);
                }
            }
        }

        /** Of like days the later telling counts: so a later row wins over one of the same day. */
        private void keepLatest(int i) {
            if (!inside(i, MOST_SHIFTS) || !inside(member[i], MEMBERS)) {
                return;
            }
            int m = member[i];
            int old = latest[m];
            if (!inside(old, MOST_SHIFTS) || day[i] >= day[old]) {
                latest[m] = i;
            }
        }

        /** The next day behind this one from which a shift counts; DAYS if there is none. */
        int dayBehind(int on) {
            int next = DAYS;
            for (int i = 0; i < count && i < MOST_SHIFTS; i++) {
                if (day[i] > on && day[i] < next) {
                    next = day[i];
                }
            }
            return next;
        }
    }

    /** What a token of a rule's text is; from NUMBER on also what a step of its code does. */
    private static final class Sign {
        private static final int END = 0;
        private static final int WRONG = 1;
        private static final int SEMICOLON = 2;
        private static final int OPEN = 3;
        private static final int CLOSE = 4;
        private static final int OF = 5;
        private static final int NUMBER = 6;
        private static final int HEADS = 7;
        private static final int WEIGHT = 8;
        private static final int PRESENT = 9;
        private static final int ALL = 10;
        private static final int HAS = 11;
        private static final int HEADS_OF = 12;
        private static final int WEIGHT_OF = 13;
        /** Signs below this one bring a number, it turns the last one, those above it join two. */
        private static final int NOT = 14;
        private static final int PLUS = 15;
        private static final int MINUS = 16;
        private static final int TIMES = 17;
        private static final int LESS = 18;
        private static final int EQUAL = 19;
        private static final int MORE = 20;
        private static final int AND = 21;
        private static final int OR = 22;

        static boolean isSum(int sign) {
            return sign == PLUS || sign == MINUS || sign == TIMES;
        }

        static boolean isComparison(int sign) {
            return sign == LESS || sign == EQUAL || sign == MORE;
        }

        /** The higher binds closer; 0 for an open parenthesis, past which nothing binds. */
        static int rank(int sign) {
            switch (sign) {
                case OR: return 1;
                case AND: return 2;
                case NOT: return 3;
                case LESS: case EQUAL: case MORE: return 4;
                case PLUS: case MINUS: return 5;
                case TIMES: return 6;
                default: return 0;
            }
        }

        static int ofMark(int c) {
            switch (c) {
                case ';': return SEMICOLON;
                case '+': return PLUS;
                case '-': return MINUS;
                case '*': return TIMES;
                case '(': return OPEN;
                case ')': return CLOSE;
                case '<': return LESS;
                case '=': return EQUAL;
                case '>': return MORE;
                default: return WRONG;
            }
        }
    }

    /**
     * The tape, and how it is read as a rule: token by token, each put into code behind what it
     * works on; operators wait on a stack until what they bind is complete. Without recursion, and
     * the first token that can't stand where it does is the first fault by its place.
     */
    private static final class Reader {
        private static final int CANT_STAND = 1;
        private static final int NONE_SUCH = 2;
        private static final int TOO_DEEP = 3;
        private static final int MOST_OPEN = 8;
        private static final int MOST_DIGITS = 4;
        /** At each of 9 depths an or, an and and what opened it; three more in the innermost. */
        private static final int MOST_WAITING = 40;

        /** What may come next. */
        private static final int CLAUSE = 0;
        private static final int UNIT = 1;
        private static final int OWNER = 2;
        private static final int BEHIND_NAME = 3;
        private static final int BEHIND_UNIT = 4;
        private static final int BEHIND_CLAUSE = 5;
        private static final int LAST = 6;
        private static final int FIRST = 7;
        private static final int OVER = 8;

        private final int[] text = new int[MOST_BYTES];
        private final int[] code = new int[MOST_BYTES];
        private final int[] waiting = new int[MOST_WAITING];
        private int length;
        private int codes;
        private int waits;
        private int fault;
        private int faultPlace = NONE;
        private int at;
        private int place;
        private int sign;
        private int number;
        private int state;
        /** The heads, weight or has that a bloc's or member's number follows. */
        private int name;
        private boolean compared;
        private int open;
        private int parentheses;

        void put(int word) {
            for (int bits = 24; bits >= 0 && length < MOST_BYTES; bits -= 8) {
                text[length] = word >> bits & 255;
                length++;
            }
        }

        void read() {
            codes = 0;
            waits = 0;
            fault = 0;
            faultPlace = NONE;
            at = 0;
            compared = false;
            open = 0;
            parentheses = 0;
            state = FIRST;
            for (int n = 0; n <= MOST_BYTES && state != OVER; n++) {
                nextToken();
                takeToken();
            }
        }

        private void nextToken() {
            while (at < length && at < MOST_BYTES && (text[at] == 32 || text[at] == 10)) {
                at++;
            }
            place = at;
            if (at >= length || at >= MOST_BYTES) {
                sign = Sign.END;
            } else if (isLetter(text[at])) {
                readWord();
            } else if (isDigit(text[at])) {
                readNumber();
            } else {
                sign = Sign.ofMark(text[at]);
                at++;
            }
        }

        private void readWord() {
            while (at < length && at < MOST_BYTES && isLetter(text[at])) {
                at++;
            }
            sign = isWord("or") ? Sign.OR
                : isWord("and") ? Sign.AND
                : isWord("not") ? Sign.NOT
                : isWord("has") ? Sign.HAS
                : isWord("of") ? Sign.OF
                : isWord("heads") ? Sign.HEADS
                : isWord("weight") ? Sign.WEIGHT
                : isWord("members") ? Sign.PRESENT
                : isWord("all") ? Sign.ALL
                : Sign.WRONG;
        }

        private boolean isWord(String word) {
            if (at - place != word.length() || at > MOST_BYTES) {
                return false;
            }
            for (int i = 0; i < word.length(); i++) {
                if (text[place + i] != word.charAt(i)) {
                    return false;
                }
            }
            return true;
        }

        private void readNumber() {
            number = 0;
            while (at < length && at < MOST_BYTES && isDigit(text[at])) {
                number = number * 10 + text[at] - '0';
                at++;
            }
            sign = at - place <= MOST_DIGITS ? Sign.NUMBER : Sign.WRONG;
        }

        private static boolean isLetter(int c) {
            return c >= 'a' && c <= 'z' || c >= 'A' && c <= 'Z';
        }

        private static boolean isDigit(int c) {
            return c >= '0' && c <= '9';
        }

        private void takeToken() {
            if (state == FIRST) {
                // a blank is no token: a tape of blanks alone is the empty text too
                state = sign == Sign.END ? OVER : CLAUSE;
            }
            if (state == BEHIND_NAME && sign != Sign.OF) {
                emit(name, 0);
                state = BEHIND_UNIT;
            }
            if (state == BEHIND_UNIT && compared && !Sign.isSum(sign)) {
                state = BEHIND_CLAUSE;
            }
            switch (state) {
                case CLAUSE: takeClause(); break;
                case UNIT: takeUnit(); break;
                case OWNER: takeOwner(); break;
                case BEHIND_NAME: state = OWNER; break;
                case BEHIND_UNIT: takeBehindUnit(); break;
                case BEHIND_CLAUSE: takeBehindClause(); break;
                case LAST: takeLast(); break;
                default: break;
            }
        }

        private void takeClause() {
            if (sign == Sign.NOT || sign == Sign.OPEN) {
                takeOpening();
            } else if (sign == Sign.HAS) {
                name = Sign.HAS;
                state = OWNER;
            } else {
                compared = false;
                takeUnit();
            }
        }

        private void takeOpening() {
            if (open >= MOST_OPEN) {
                stop(TOO_DEEP);
                return;
            }
            open++;
            if (sign == Sign.OPEN) {
                parentheses++;
            }
            push();
            state = CLAUSE;
        }

        private void takeUnit() {
            if (sign == Sign.HEADS || sign == Sign.WEIGHT) {
                name = sign;
                state = BEHIND_NAME;
            } else if (sign == Sign.NUMBER || sign == Sign.PRESENT || sign == Sign.ALL) {
                emit(sign, number);
                state = BEHIND_UNIT;
            } else {
                stop(CANT_STAND);
            }
        }

        private void takeOwner() {
            boolean ofMember = name == Sign.HAS;
            if (sign != Sign.NUMBER) {
                stop(CANT_STAND);
            } else if (number >= (ofMember ? MEMBERS : BLOCS)) {
                stop(NONE_SUCH);
            } else if (ofMember) {
                emit(Sign.HAS, number);
                state = BEHIND_CLAUSE;
            } else {
                emit(name == Sign.HEADS ? Sign.HEADS_OF : Sign.WEIGHT_OF, number);
                state = BEHIND_UNIT;
            }
        }

        private void takeBehindUnit() {
            if (Sign.isSum(sign)) {
                release(Sign.rank(sign));
                push();
                state = UNIT;
            } else if (Sign.isComparison(sign)) {
                release(Sign.rank(sign));
                push();
                compared = true;
                state = UNIT;
            } else {
                stop(CANT_STAND);
            }
        }

        private void takeBehindClause() {
            if (sign == Sign.AND || sign == Sign.OR) {
                release(Sign.rank(sign));
                push();
                state = CLAUSE;
            } else if (sign == Sign.CLOSE && parentheses > 0) {
                release(1);
                waits--;
                open--;
                parentheses--;
                state = BEHIND_CLAUSE;
            } else if (sign == Sign.SEMICOLON && parentheses == 0) {
                release(1);
                state = LAST;
            } else {
                stop(CANT_STAND);
            }
        }

        private void takeLast() {
            if (sign == Sign.END) {
                state = OVER;
            } else {
                stop(CANT_STAND);
            }
        }

        private void push() {
            if (inside(waits, MOST_WAITING)) {
                waiting[waits] = sign;
                waits++;
            }
        }

        /** What waits and binds at least as close has all it works on, and goes into the code. */
        private void release(int rank) {
            for (int n = 0; n < MOST_WAITING && inside(waits - 1, MOST_WAITING); n++) {
                int last = waiting[waits - 1];
                if (Sign.rank(last) < rank) {
                    return;
                }
                waits--;
                if (last == Sign.NOT) {
                    open--;
                }
                emit(last, 0);
            }
        }

        private void emit(int what, int operand) {
            if (inside(codes, MOST_BYTES)) {
                code[codes] = what << Rule.OPERAND_BITS | operand & Rule.OPERAND;
                codes++;
            }
        }

        private void stop(int kind) {
            fault = kind;
            faultPlace = place;
            state = OVER;
        }
    }

    /** A rule as code: each step brings a number, or turns or joins the last ones brought. */
    private static final class Rule {
        private static final int OPERAND_BITS = 14;
        private static final int OPERAND = (1 << OPERAND_BITS) - 1;

        private final int[] code = new int[MOST_BYTES];
        private final int[] stack = new int[Reader.MOST_WAITING];
        private final Table table = new Table();
        private int codes;

        void become(Reader reader) {
            codes = reader.codes;
            System.arraycopy(reader.code, 0, code, 0, MOST_BYTES);
            table.fresh = false;
        }

        /** Without a step nothing is brought: so an empty text lets nothing carry. */
        boolean holds(int set, Seats seats) {
            int top = 0;
            for (int i = 0; i < codes && i < MOST_BYTES; i++) {
                int sign = code[i] >> OPERAND_BITS;
                if (sign < Sign.NOT) {
                    if (inside(top, stack.length)) {
                        stack[top] = ask(sign, code[i] & OPERAND, set, seats);
                        top++;
                    }
                } else if (sign == Sign.NOT) {
                    if (inside(top - 1, stack.length)) {
                        stack[top - 1] = 1 - stack[top - 1];
                    }
                } else if (inside(top - 1, stack.length) && top > 1) {
                    stack[top - 2] = join(sign, stack[top - 2], stack[top - 1]);
                    top--;
                }
            }
            return top > 0 && stack[0] != 0;
        }

        private static int ask(int sign, int operand, int set, Seats seats) {
            switch (sign) {
                case Sign.HEADS: return Integer.bitCount(set);
                case Sign.WEIGHT: return seats.weightOf(set);
                case Sign.PRESENT: return Integer.bitCount(seats.in);
                case Sign.ALL: return seats.all;
                case Sign.HAS: return set >> operand & 1;
                case Sign.HEADS_OF: return Integer.bitCount(set & seats.ofBloc(operand));
                case Sign.WEIGHT_OF: return seats.weightOf(set & seats.ofBloc(operand));
                default: return operand;
            }
        }

        private static int join(int sign, int a, int b) {
            switch (sign) {
                case Sign.PLUS: return a + b;
                case Sign.MINUS: return a - b;
                case Sign.TIMES: return a * b;
                case Sign.LESS: return a < b ? 1 : 0;
                case Sign.EQUAL: return a == b ? 1 : 0;
                case Sign.MORE: return a > b ? 1 : 0;
                case Sign.AND: return a & b;
                default: return a | b;
            }
        }

        /** Asks the table where it stands already: filling it for one set would be dear. */
        boolean passes(int set, Seats seats) {
            return table.fresh ? table.at(set) : holds(set, seats);
        }

        void tabulate(Seats seats) {
            if (table.fresh) {
                return;
            }
            table.clear(seats.in);
            for (int set = 0; set < SETS; set++) {
                if (isWithin(set, seats.in) && holds(set, seats)) {
                    table.mark(set);
                }
            }
            table.fresh = true;
        }
    }

    /** Which sets of the members that are in carry, kept until the view or the rule changes. */
    private static final class Table {
        private static final int SIDES = 4;

        private final int[] bits = new int[SETS >> 5];
        private final int[] trade = new int[SIDES];
        private int in;
        private boolean fresh;
        private boolean tradeSought;

        void clear(int present) {
            Arrays.fill(bits, 0);
            in = present;
            tradeSought = false;
        }

        void mark(int set) {
            if (inside(set, SETS)) {
                bits[set >> 5] |= 1 << (set & 31);
            }
        }

        boolean at(int set) {
            return inside(set, SETS) && has(bits[set >> 5], set & 31);
        }

        private boolean isSwing(int set, int one) {
            return isWithin(set, in & ~one) && !at(set) && at(set | one);
        }

        long swings(int m) {
            int one = 1 << m;
            long sum = 0;
            for (int set = 0; set <= in; set++) {
                if (isSwing(set, one)) {
                    sum++;
                }
            }
            return sum;
        }

        long setsWithoutOne() {
            return 1L << Math.max(Integer.bitCount(in) - 1, 0);
        }

        /** Those ahead and those behind may come in any order among themselves. */
        long turns(int m) {
            int one = 1 << m;
            int others = Integer.bitCount(in) - 1;
            long sum = 0;
            for (int set = 0; set <= in; set++) {
                if (isSwing(set, one)) {
                    int ahead = Integer.bitCount(set);
                    sum += factorial(ahead) * factorial(others - ahead);
                }
            }
            return sum;
        }

        long orders() {
            return factorial(Integer.bitCount(in));
        }

        private static long factorial(int n) {
            long product = 1;
            for (int i = 2; i <= n; i++) {
                product *= i;
            }
            return product;
        }

        int oddSet() {
            for (int set = 0; set <= in; set++) {
                if (isWithin(set, in) && at(set) && spoiler(set) != NONE) {
                    return set;
                }
            }
            return NONE;
        }

        /** The least member with which the set does not carry any more. */
        int spoiler(int set) {
            int others = in & ~set;
            for (int m = 0; m < MEMBERS; m++) {
                if (has(others, m) && !at(set | 1 << m)) {
                    return m;
                }
            }
            return NONE;
        }

        boolean noLess(int i, int j) {
            int others = in & ~(1 << i) & ~(1 << j);
            for (int set = 0; set <= others; set++) {
                if (isWithin(set, others) && at(set | 1 << j) && !at(set | 1 << i)) {
                    return false;
                }
            }
            return true;
        }
    }

    /** The least sets that carry, or that stop. */
    private static final class Leasts {
        /** None of them is within another: so there are at most 10 over 5. */
        private static final int MOST = 252;

        private final int[] found = new int[MOST];
        private final Table covering = new Table();
        private int count;

        int at(int i) {
            return inside(i, count) && i < MOST ? found[i] : NONE;
        }

        void seek(Table table, boolean stopping) {
            count = 0;
            covering.clear(table.in);
            for (int set = 0; set <= table.in; set++) {
                if (isWithin(set, table.in)) {
                    boolean does = stopping ? !table.at(table.in & ~set) : table.at(set);
                    weigh(set, does);
                }
            }
        }

        /** Sets come in the order of their numbers: all that are within one come ahead of it. */
        private void weigh(int set, boolean does) {
            boolean covers = coversOne(set);
            if (does && !covers && inside(count, MOST)) {
                found[count] = set;
                count++;
            }
            if (does || covers) {
                covering.mark(set);
            }
        }

        private boolean coversOne(int set) {
            for (int m = 0; m < MEMBERS; m++) {
                if (has(set, m) && covering.at(set ^ 1 << m)) {
                    return true;
                }
            }
            return false;
        }
    }

    /**
     * Seeks trades. Of two sets each member is in none, one or both: read as figures to the base
     * of three, these counts are the sum of the two sets' own figures, so that two pairs can be
     * traded if their sums are the same.
     */
    private static final class Trader {
        private static final int SUMS = 59049;

        /** Those that carry, then those that do not, by their numbers; and their figures. */
        private final int[] sets = new int[SETS];
        private final int[] figures = new int[SETS];
        private final int[] sums = new int[(SUMS >> 5) + 1];
        private int carrying;
        private int count;

        void seek(Table table) {
            table.tradeSought = true;
            Arrays.fill(table.trade, NONE);
            count = 0;
            list(table, true);
            carrying = count;
            list(table, false);
            if (carrying > 1 && count - carrying > 1) {
                markSums();
                findPair(table);
            }
        }

        private void list(Table table, boolean does) {
            for (int set = 0; set <= table.in; set++) {
                if (isWithin(set, table.in) && table.at(set) == does && inside(count, SETS)) {
                    sets[count] = set;
                    figures[count] = figureOf(set);
                    count++;
                }
            }
        }

        private static int figureOf(int set) {
            int figure = 0;
            for (int m = MEMBERS - 1; m >= 0; m--) {
                figure = figure * 3 + (set >> m & 1);
            }
            return figure;
        }

        /** Notes which sums two sets have that do not carry. */
        private void markSums() {
            Arrays.fill(sums, 0);
            for (int i = carrying; i < count && i < SETS; i++) {
                int first = figures[i];
                for (int j = i + 1; j < count && j < SETS; j++) {
                    int sum = first + figures[j];
                    if (inside(sum, SUMS)) {
                        sums[sum >> 5] |= 1 << (sum & 31);
                    }
                }
            }
        }

        private void findPair(Table table) {
            for (int i = 0; i < carrying && i < SETS; i++) {
                int first = figures[i];
                for (int j = i + 1; j < carrying && j < SETS; j++) {
                    int sum = first + figures[j];
                    if (inside(sum, SUMS) && has(sums[sum >> 5], sum & 31)) {
                        findOthers(table, sets[i], sets[j]);
                        return;
                    }
                }
            }
        }

        private void findOthers(Table table, int a, int b) {
            int both = a & b;
            int one = a ^ b;
            for (int i = carrying; i < count && i < SETS; i++) {
                int c = sets[i];
                int d = both | one & ~c;
                if (isWithin(c, a | b) && isWithin(both, c) && c < d && !table.at(d)) {
                    table.trade[0] = a;
                    table.trade[1] = b;
                    table.trade[2] = c;
                    table.trade[3] = d;
                    return;
                }
            }
        }
    }

    /** What the members wish, an agenda, and which motion beats which by the rule asked last. */
    private static final class Motions {
        private static final int LEADING = 9;
        private static final int MOST_ORDERS = 720;

        private final int[] first = new int[MEMBERS];
        /** At which place of member m's wish motion x stands: at m times MOTIONS and x. */
        private final int[] rank = new int[MEMBERS * MOTIONS];
        private final int[] told = new int[MOTIONS];
        /** The motions that each one beats, as a set. */
        private final int[] beaten = new int[MOTIONS];
        private final int[] leads = new int[MOTIONS];
        private final int[] order = new int[MOTIONS];
        private int count;

        Motions() {
            Arrays.fill(first, NONE);
        }

        int firstOf(int m) {
            return inside(m, MEMBERS) ? first[m] : NONE;
        }

        void drop(int m) {
            if (inside(m, MEMBERS)) {
                first[m] = NONE;
            }
        }

        boolean take(int m, int order) {
            if (!inside(m, MEMBERS) || order < 0) {
                return false;
            }
            int seen = 0;
            int rest = order;
            int motion = NONE;
            for (int i = MOTIONS - 1; i >= 0; i--) {
                motion = rest % 10;
                rest /= 10;
                if (!inside(motion, MOTIONS) || has(seen, motion)) {
                    return false;
                }
                seen |= 1 << motion;
                told[motion] = i;
            }
            if (rest != 0) {
                return false;
            }
            first[m] = motion;
            System.arraycopy(told, 0, rank, m * MOTIONS, MOTIONS);
            return true;
        }

        /** The members, in or out, that wish a ahead of b. */
        int ahead(int a, int b) {
            int set = 0;
            if (inside(a, MOTIONS) && inside(b, MOTIONS)) {
                for (int m = 0; m < MEMBERS; m++) {
                    if (first[m] != NONE && rank[m * MOTIONS + a] < rank[m * MOTIONS + b]) {
                        set |= 1 << m;
                    }
                }
            }
            return set;
        }

        void compare(Rule rule, Seats seats) {
            for (int a = 0; a < MOTIONS; a++) {
                beaten[a] = 0;
                for (int b = 0; b < MOTIONS; b++) {
                    if (a != b && rule.passes(ahead(a, b) & seats.in, seats)) {
                        beaten[a] |= 1 << b;
                    }
                }
            }
        }

        private boolean beats(int a, int b) {
            return inside(a, MOTIONS) && inside(b, MOTIONS) && has(beaten[a], b);
        }

        boolean fromDigits(int digits) {
            int figures = 0;
            int rest = digits;
            for (int i = 0; i < MOTIONS && rest > LEADING; i++) {
                rest /= 10;
                figures++;
            }
            if (rest != LEADING || figures == 0) {
                return false;
            }
            count = figures;
            int seen = 0;
            int left = digits;
            for (int i = figures - 1; i >= 0 && i < MOTIONS; i--) {
                int motion = left % 10;
                left /= 10;
                if (!inside(motion, MOTIONS) || has(seen, motion)) {
                    return false;
                }
                seen |= 1 << motion;
                order[i] = motion;
            }
            return true;
        }

        private int toDigits() {
            int digits = LEADING;
            for (int i = 0; i < count && i < MOTIONS; i++) {
                digits = digits * 10 + order[i];
            }
            return digits;
        }

        int outcome(boolean sight) {
            return sight ? foreseen() : sincere();
        }

        private int sincere() {
            int stands = order[0];
            for (int i = 1; i < count && i < MOTIONS; i++) {
                if (beats(order[i], stands)) {
                    stands = order[i];
                }
            }
            return stands;
        }

        /** From the end: what each motion leads to, if it stands when the i-th one is put. */
        private int foreseen() {
            for (int x = 0; x < MOTIONS; x++) {
                leads[x] = x;
            }
            for (int i = count - 1; i >= 1; i--) {
                int next = leadOf(i);
                for (int x = 0; x < MOTIONS; x++) {
                    if (beats(next, leads[x])) {
                        leads[x] = next;
                    }
                }
            }
            return leadOf(0);
        }

        private int leadOf(int i) {
            return inside(i, MOTIONS) && inside(order[i], MOTIONS) ? leads[order[i]] : NONE;
        }

        int ordersFor(int x, int set, boolean sight) {
            int sum = 0;
            boolean more = firstOrder(set);
            for (int n = 0; n < MOST_ORDERS && more; n++) {
                if (outcome(sight) == x) {
                    sum++;
                }
                more = nextOrder();
            }
            return sum;
        }

        int firstFor(int x, int set, boolean sight) {
            boolean more = firstOrder(set);
            for (int n = 0; n < MOST_ORDERS && more; n++) {
                if (outcome(sight) == x) {
                    return toDigits();
                }
                more = nextOrder();
            }
            return NONE;
        }

        private boolean firstOrder(int set) {
            count = 0;
            for (int x = 0; x < MOTIONS; x++) {
                if (has(set, x) && inside(count, MOTIONS)) {
                    order[count] = x;
                    count++;
                }
            }
            return count > 0;
        }

        /** The next order by words; false behind the last one. */
        private boolean nextOrder() {
            if (!inside(count - 1, MOTIONS)) {
                return false;
            }
            int i = count - 2;
            while (i >= 0 && order[i] > order[i + 1]) {
                i--;
            }
            if (i < 0) {
                return false;
            }
            int j = count - 1;
            while (j > i && order[j] < order[i]) {
                j--;
            }
            swap(i, j);
            for (int a = i + 1, b = count - 1; a < b; a++, b--) {
                swap(a, b);
            }
            return true;
        }

        private void swap(int i, int j) {
            if (inside(i, MOTIONS) && inside(j, MOTIONS)) {
                int kept = order[i];
                order[i] = order[j];
                order[j] = kept;
            }
        }

        int beatsAll(int set) {
            for (int x = 0; x < MOTIONS; x++) {
                if (has(set, x) && isWithin(set & ~(1 << x), beaten[x])) {
                    return x;
                }
            }
            return NONE;
        }
    }

    /** The blocs' places, and the coalitions that hang together on the line. */
    private static final class Line {
        private final int[] place = new int[BLOCS];
        private int count;
        private int bestSet;
        private int bestSpan;
        private int bestWeight;

        void seek(Rule rule, Seats seats) {
            int present = seats.blocs();
            count = 0;
            bestSet = NONE;
            bestSpan = NONE;
            bestWeight = NONE;
            // the empty set has no places that it could span
            for (int set = 1; set <= present; set++) {
                if (isWithin(set, present) && hangsTogether(set, present)) {
                    int members = seats.ofBlocs(set);
                    if (rule.passes(members, seats)) {
                        count++;
                        keepBetter(set, greatest(set) - smallest(set), seats.weightOf(members));
                    }
                }
            }
        }

        /** Sets come in the order of their numbers: a like one that comes later is not better. */
        private void keepBetter(int set, int span, int weight) {
            if (bestSet == NONE || span < bestSpan || span == bestSpan && weight < bestWeight) {
                bestSet = set;
                bestSpan = span;
                bestWeight = weight;
            }
        }

        private boolean hangsTogether(int set, int present) {
            int from = smallest(set);
            int to = greatest(set);
            for (int b = 0; b < BLOCS; b++) {
                if (has(present & ~set, b) && place[b] > from && place[b] < to) {
                    return false;
                }
            }
            return true;
        }

        private int smallest(int set) {
            int least = AMOUNTS;
            for (int b = 0; b < BLOCS; b++) {
                if (has(set, b)) {
                    least = Math.min(least, place[b]);
                }
            }
            return least;
        }

        private int greatest(int set) {
            int most = 0;
            for (int b = 0; b < BLOCS; b++) {
                if (has(set, b)) {
                    most = Math.max(most, place[b]);
                }
            }
            return most;
        }
    }

    /** The posts' values, and the deal that was made last. */
    private static final class Dealer {
        /** To bloc b post p is of the value at p times BLOCS and b. */
        private final int[] values = new int[POSTS * BLOCS];
        private final int[] weight = new int[BLOCS];
        private final int[] choices = new int[BLOCS];
        private final int[] chooser = new int[POSTS];
        private final int[] owner = new int[POSTS];
        private final int[] held = new int[BLOCS];
        /** With sight: of each set of posts left, which is taken, and what the blocs still get. */
        private final int[] pick = new int[POST_SETS];
        private final int[] gain = new int[POST_SETS * BLOCS];
        private int count;

        void price(int p, int b, int v) {
            if (inside(p, POSTS) && inside(b, BLOCS)) {
                values[p * BLOCS + b] = v;
            }
        }

        private int priceOf(int p, int b) {
            return inside(p, POSTS) && inside(b, BLOCS) ? values[p * BLOCS + b] : 0;
        }

        /** Whether all blocs of the coalition have a weight above 0. */
        boolean weigh(int coalition, Seats seats) {
            boolean all = true;
            for (int b = 0; b < BLOCS; b++) {
                weight[b] = has(coalition, b) ? seats.weightOf(seats.ofBloc(b)) : 0;
                if (has(coalition, b) && weight[b] == 0) {
                    all = false;
                }
            }
            return all;
        }

        /** Who chooses when: this hangs on the weights alone, not on what is chosen. */
        void queueUp(int coalition, int posts, int way) {
            Arrays.fill(choices, 0);
            count = Math.min(posts, POSTS);
            for (int i = 0; i < count; i++) {
                int next = NONE;
                for (int b = 0; b < BLOCS; b++) {
                    if (has(coalition, b) && (next == NONE || isAhead(b, next, way))) {
                        next = b;
                    }
                }
                chooser[i] = next;
                if (inside(next, BLOCS)) {
                    choices[next]++;
                }
            }
        }

        private boolean isAhead(int b, int other, int way) {
            if (!inside(b, BLOCS) || !inside(other, BLOCS)) {
                return false;
            }
            int mine = weight[b] * (choices[other] * (way + 1) + 1);
            int its = weight[other] * (choices[b] * (way + 1) + 1);
            return mine > its || mine == its && weight[b] > weight[other];
        }

        void handOut(int coalition, int posts, boolean sight) {
            Arrays.fill(owner, NONE);
            for (int b = 0; b < BLOCS; b++) {
                held[b] = has(coalition, b) ? 0 : NONE;
            }
            if (sight) {
                foresee(posts);
            }
            int left = posts;
            for (int i = 0; i < count && i < POSTS; i++) {
                int b = chooser[i];
                int p = sight && inside(left, POST_SETS) ? pick[left] : dearest(left, b);
                if (inside(p, POSTS) && inside(b, BLOCS)) {
                    owner[p] = b;
                    held[b] += priceOf(p, b);
                    left &= ~(1 << p);
                }
            }
        }

        private int dearest(int left, int b) {
            int best = NONE;
            for (int p = 0; p < POSTS; p++) {
                if (has(left, p) && (best == NONE || priceOf(p, b) > priceOf(best, b))) {
                    best = p;
                }
            }
            return best;
        }

        /** Sets left come by their numbers: what is left later comes ahead; of none left none gain. */
        private void foresee(int posts) {
            for (int left = 1; left <= posts && left < POST_SETS; left++) {
                int turn = count - Integer.bitCount(left);
                if (isWithin(left, posts) && inside(turn, POSTS)) {
                    foreseeOne(left, chooser[turn]);
                }
            }
        }

        private void foreseeOne(int left, int b) {
            int best = NONE;
            int most = NONE;
            for (int p = 0; p < POSTS; p++) {
                if (has(left, p)) {
                    int whole = priceOf(p, b) + gainOf(left & ~(1 << p), b);
                    if (whole > most) {
                        most = whole;
                        best = p;
                    }
                }
            }
            if (!inside(left, POST_SETS) || !inside(best, POSTS)) {
                return;
            }
            pick[left] = best;
            for (int other = 0; other < BLOCS; other++) {
                int later = gainOf(left & ~(1 << best), other);
                gain[left * BLOCS + other] = other == b ? most : later;
            }
        }

        private int gainOf(int left, int b) {
            return inside(left, POST_SETS) && inside(b, BLOCS) ? gain[left * BLOCS + b] : 0;
        }

        int ownerOf(int p) {
            return inside(p, POSTS) ? owner[p] : NONE;
        }

        int heldBy(int b) {
            return inside(b, BLOCS) ? held[b] : NONE;
        }

        int chooserAt(int i) {
            return inside(i, count) && i < POSTS ? chooser[i] : NONE;
        }
    }
}
