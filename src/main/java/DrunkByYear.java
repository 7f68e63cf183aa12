/** Whoever drinks of a vintage is, till morning, as old as in its year. */
public final class DrunkByYear {
    public static final int NONE = -1, BAD = -2, STATE = -3, FULL = -4;
    /** There is no such number. */
    public static final long NO = Long.MIN_VALUE;

    private static final int NOTHING = -5, NOT_SO = -6, FAULT = -10, UNKNOWN = -10001;
    private static final int PEOPLE = 6, VINTAGES = 5, VILLAGES = 5, SIGNS = 100, CLAUSES = 10, OPEN = 5;
    private static final int SEEN_ROWS = 5, NIGHT_ROWS = 8, BOOK_ROWS = 8, KEPT_BODIES = 20;
    private static final int FIRST_YEAR = 100, LAST_YEAR = 999, BIRTHS = 200, FIRMNESSES = 10;
    private static final int LONGEST_LIFE = 120, MOST_BOTTLES = 99, MOST_DAWNS = 99, BLENDED = 2;
    private static final int LEAST_TOLD_AGE = -200, MOST_TOLD_AGE = 400;

    private static final int PERSON = 0, HEAVY = 1, LIGHT = 2, STEADY = 3, DEEP = 4, SIPPING = 5, TOLD = 6;
    /** By kind, the kind above it. */
    private static final int[] ABOVE = {-1, PERSON, PERSON, PERSON, HEAVY, LIGHT, STEADY};
    /** What one has that has no vintage, and the year of that. */
    private static final int DRY = -1;
    /** What the test h takes DRY for. */
    private static final int DRY_FACT = 9;
    /** Farther than any two ages or nerves are. */
    private static final int FAR = 1000000;

    private final Village[] villages = new Village[VILLAGES];
    private final World now, image, trial;
    private final Search search;
    private final Acts acts = new Acts();
    private boolean imaged;

    public DrunkByYear() {
        Village without = new Village();
        now = new World(without);
        image = new World(without);
        trial = new World(without);
        search = new Search(now);
        for (int i = 0; i < villages.length; i++) {
            villages[i] = new Village();
        }
    }

    // ---- villages, people, vintages

    public int feed(int sign) {
        if (sign < 0 || sign > 127) {
            return BAD;
        }
        if (now.signs >= SIGNS) {
            return FULL;
        }
        now.tape[now.signs++] = (char) sign;
        return now.signs;
    }

    public int village() {
        if (now.villages >= VILLAGES) {
            return FULL;
        }
        // No image looks at this slot: it has at most as many villages as there are now.
        Village newest = villages[now.villages];
        Reader reader = new Reader(now.tape, now.signs, newest);
        boolean read = reader.readVillage();
        now.signs = 0;
        if (!read) {
            return FAULT - reader.at;
        }
        now.holds = newest;
        return now.villages++;
    }

    public int person(int kind, int v, int born, int life) {
        if (!isKind(kind)) {
            return NONE;
        }
        if (!isDigit(v) || born < 0 || born >= BIRTHS || life < 0 || life > LONGEST_LIFE) {
            return BAD;
        }
        if (now.people >= PEOPLE) {
            return FULL;
        }
        now.folk[now.people].comeToLife(kind, v, born, life);
        return now.people++;
    }

    public int vintage(int year, int bottles) {
        if (year < 0 || year >= BIRTHS || !isBottles(bottles)) {
            return BAD;
        }
        if (now.vintages >= VINTAGES) {
            return FULL;
        }
        return now.addVintage(year, bottles);
    }

    public int of(int person, int what) {
        if (!isOne(person)) {
            return UNKNOWN;
        }
        Person one = now.folk[person];
        switch (what) {
            case 0: return one.kind;
            case 1: return one.v;
            case 2: return one.born;
            case 3: return one.life;
            case 4: return shown(one.has);
            case 5: return now.ageBy(person, one.has);
            case 6: return now.stageBy(person, one.has) > 0 ? 1 : 0;
            case 7: return now.stageBy(person, one.has);
            case 8: return now.nerveBy(person, one.has);
            default: return UNKNOWN;
        }
    }

    public int row(int person, int k, int n) {
        if (!isOne(person) || k < 0 || k > 3) {
            return NONE;
        }
        if (!isDigit(n)) {
            return BAD;
        }
        Person one = now.folk[person];
        if (one.kind != TOLD) {
            return STATE;
        }
        int before = one.row[k];
        one.row[k] = n;
        return before;
    }

    public int wine(int vintage, int what) {
        if (!isVintage(vintage) || what < 0 || what > 1) {
            return NONE;
        }
        return what == 0 ? now.wineYear[vintage] : now.bottles[vintage];
    }

    public int stock(int vintage, int n) {
        if (!isVintage(vintage)) {
            return NONE;
        }
        if (!isBottles(n)) {
            return BAD;
        }
        int before = now.bottles[vintage];
        now.bottles[vintage] = n;
        return before;
    }

    public int told(int what) {
        switch (what) {
            case 0: return now.year;
            case 1: return now.holds.grown;
            case 2: return now.holds.old;
            case 3: return now.whoIsHere();
            case 4: return now.nerveOfAll();
            case 5: return now.bottlesInAll();
            default: return NONE;
        }
    }

    public int pour(int person, int vintage) {
        if (!isOne(person) || !isVintage(vintage)) {
            return NONE;
        }
        if (!now.pourOut(person, vintage)) {
            return STATE;
        }
        return now.stageBy(person, vintage);
    }

    public int dry(int person) {
        if (!isOne(person)) {
            return NONE;
        }
        int had = now.folk[person].has;
        now.folk[person].has = DRY;
        return shown(had);
    }

    public int dawn(int n) {
        if (n < 1 || n > MOST_DAWNS) {
            return BAD;
        }
        if (now.year + n > LAST_YEAR) {
            return STATE;
        }
        now.growLight(n);
        return now.year;
    }

    public int blend(int one, int other) {
        if (!isVintage(one) || !isVintage(other)) {
            return NONE;
        }
        if (one == other) {
            return BAD;
        }
        if (now.bottles[one] == 0 || now.bottles[other] == 0) {
            return STATE;
        }
        if (now.vintages >= VINTAGES) {
            return FULL;
        }
        now.bottles[one]--;
        now.bottles[other]--;
        return now.addVintage((now.wineYear[one] + now.wineYear[other]) / 2, BLENDED);
    }

    // ---- who is here

    public int alive(int n) {
        if (n < 0 || n > MOST_DAWNS) {
            return BAD;
        }
        if (n == 0) {
            return now.whoIsHere();
        }
        int bits = 0;
        for (int p = 0; p < now.people; p++) {
            Person one = now.folk[p];
            if (one.isHereAt(one.ageIn(now.year + n, DRY))) {
                bits |= 1 << p;
            }
        }
        return bits;
    }

    public int brings(int person) {
        if (!isOne(person)) {
            return NONE;
        }
        int bits = 0;
        for (int w = 0; w < now.vintages; w++) {
            if (now.bottles[w] > 0 && now.stageBy(person, w) > 0) {
                bits |= 1 << w;
            }
        }
        return bits;
    }

    public int nearest(int person, int n) {
        if (!isOne(person)) {
            return NONE;
        }
        if (n < 0 || n > LONGEST_LIFE) {
            return BAD;
        }
        int nearest = NOTHING, least = FAR;
        for (int w = 0; w < now.vintages; w++) {
            int off = Math.abs(now.ageBy(person, w) - n);
            if (now.bottles[w] > 0 && off < least) {
                nearest = w;
                least = off;
            }
        }
        return nearest;
    }

    public int two() {
        int here = now.whoIsHere(), nearest = NOTHING, least = FAR;
        for (int p = 0; p < now.people; p++) {
            for (int q = p + 1; q < now.people; q++) {
                int off = Math.abs(now.ageBy(p, now.folk[p].has) - now.ageBy(q, now.folk[q].has));
                if ((here >> p & here >> q & 1) == 1 && off < least) {
                    nearest = 10 * p + q;
                    least = off;
                }
            }
        }
        return nearest;
    }

    public int meet(int one, int other, int what) {
        if (!isOne(one) || !isOne(other) || !isCountOrFirst(what)) {
            return NONE;
        }
        if (one == other) {
            return BAD;
        }
        Person a = now.folk[one], b = now.folk[other];
        int many = 0, first = NOTHING;
        for (int y = BIRTHS - 1; y >= 0; y--) {
            if (a.isHereAt(a.ageIn(now.year, y)) && b.isHereAt(b.ageIn(now.year, y))) {
                many++;
                first = y;
            }
        }
        return what == 0 ? many : first;
    }

    // ---- seatings

    public int fewest(int set, int what) {
        if (!isOfSeating(what)) {
            return NONE;
        }
        if (set < 0 || set >= 1 << now.people) {
            return BAD;
        }
        return search.answer(Search.JUST_THESE, set, what);
    }

    public int close(int what) {
        return isOfSeating(what) ? search.answer(Search.ALL_CLOSE, 0, what) : NONE;
    }

    public int boldest(int what) {
        return isOfSeating(what) ? search.answer(Search.ALL_BOLD, 0, what) : NONE;
    }

    // ---- seen, odds

    public int see(int person, int age) {
        return tellAge(now.seen, person, age);
    }

    public int drank(int person) {
        if (!isOne(person)) {
            return NONE;
        }
        Person one = now.folk[person];
        int bits = now.isAsSeen(person, DRY, one.born, one.v) ? 1 << VINTAGES : 0;
        for (int w = 0; w < now.vintages; w++) {
            if (now.isAsSeen(person, w, one.born, one.v)) {
                bits |= 1 << w;
            }
        }
        return bits;
    }

    public int birth(int person, int what) {
        if (!isOne(person) || !isCountOrFirst(what)) {
            return NONE;
        }
        Person one = now.folk[person];
        int many = 0, least = NOTHING;
        for (int born = BIRTHS - 1; born >= 0; born--) {
            if (now.isAsSeen(person, one.has, born, one.v)) {
                many++;
                least = born;
            }
        }
        return what == 0 ? many : least;
    }

    public int firm(int person, int what) {
        if (!isOne(person) || !isCountOrFirst(what)) {
            return NONE;
        }
        Person one = now.folk[person];
        int many = 0, least = NOTHING;
        for (int v = FIRMNESSES - 1; v >= 0; v--) {
            if (now.isAsSeen(person, one.has, one.born, v)) {
                many++;
                least = v;
            }
        }
        return what == 0 ? many : least;
    }

    public long odds(int person, int stage, int part) {
        if (!isOne(person) || stage < 0 || stage > 3) {
            return NO;
        }
        int such = 0;
        for (int w = 0; w < now.vintages; w++) {
            if (now.stageBy(person, w) == stage) {
                such += now.bottles[w];
            }
        }
        return partOfFraction(such, now.bottlesInAll(), part);
    }

    public long mean(int part) {
        int sum = 0, here = 0;
        for (int p = 0; p < now.people; p++) {
            int has = now.folk[p].has;
            if (now.stageBy(p, has) > 0) {
                sum += now.ageBy(p, has);
                here++;
            }
        }
        return partOfFraction(sum, here, part);
    }

    // ---- nights, books

    public int night(int what, int person, int vintage) {
        if (what == -1) {
            return now.night.empty();
        }
        if (what < 0 || what > 2 || (what != 0 && !isOne(person)) || (what == 1 && !isVintage(vintage))) {
            return NONE;
        }
        return now.night.add(what, person, vintage);
    }

    public int done(int what) {
        if (what < 0 || what > 1) {
            return NONE;
        }
        trial.become(now);
        trial.liveThroughNight();
        return what == 0 ? Integer.bitCount(trial.whoIsHere()) : trial.nerveOfAll();
    }

    public int book(int person, int age) {
        return tellAge(now.book, person, age);
    }

    public int looked() {
        for (int i = 0; i < now.book.size; i++) {
            int p = now.book.who[i];
            if (now.ageBy(p, now.folk[p].has) != now.book.number[i]) {
                return i;
            }
        }
        return NOTHING;
    }

    // ---- acts, the image

    public int act(int person, int act, int x) {
        acts.ran = 0;
        if (!isOne(person) || act < 0 || act > 2) {
            return 0;
        }
        Person one = now.folk[person];
        return acts.perform(one, act, one.kind, x, 0);
    }

    public int trace(int i) {
        return i >= 0 && i < acts.ran && i < KEPT_BODIES ? acts.bodies[i] : NONE;
    }

    public int as(int person, int k) {
        if (!isOne(person) || !isKind(k)) {
            return NONE;
        }
        int kind = now.folk[person].kind;
        for (int up = 0; up < ABOVE.length && kind > k; up++) {
            kind = ABOVE[kind];
        }
        return kind == k ? now.folk[person].v : NOT_SO;
    }

    public int image() {
        image.become(now);
        imaged = true;
        return now.people;
    }

    public int undo() {
        if (!imaged) {
            return STATE;
        }
        now.become(image);
        return now.people;
    }

    public int count(int what) {
        switch (what) {
            case 0: return now.people;
            case 1: return now.villages;
            case 2: return now.seen.size;
            case 3: return now.night.size;
            case 4: return now.book.size;
            case 5: return now.signs;
            case 6: return acts.ran;
            case 7: return now.vintages;
            default: return NONE;
        }
    }

    // ---- what several calls ask

    private boolean isOne(int person) {
        return person >= 0 && person < now.people;
    }

    private boolean isVintage(int vintage) {
        return vintage >= 0 && vintage < now.vintages;
    }

    private boolean isOfSeating(int what) {
        return what == 0 || (what >= 10 && isOne(what - 10));
    }

    private static boolean isKind(int kind) {
        return kind >= 0 && kind < ABOVE.length;
    }

    private static boolean isDigit(int n) {
        return n >= 0 && n <= 9;
    }

    private static boolean isBottles(int n) {
        return n >= 0 && n <= MOST_BOTTLES;
    }

    private static boolean isCountOrFirst(int what) {
        return what == 0 || what == 1;
    }

    private static int shown(int has) {
        return has == DRY ? NOTHING : has;
    }

    private int tellAge(Rows rows, int person, int age) {
        if (person == -1) {
            return rows.empty();
        }
        if (!isOne(person)) {
            return NONE;
        }
        if (age < LEAST_TOLD_AGE || age > MOST_TOLD_AGE) {
            return BAD;
        }
        return rows.add(0, person, age);
    }

    /** Of above / below, neither less than 0, in lowest terms. */
    private static long partOfFraction(int above, int below, int part) {
        if (below <= 0 || part < 0 || part > 1) {
            return NO;
        }
        int whole = below, rest = above;
        // Every second step halves the rest at least, so 64 are enough for any two ints.
        for (int i = 0; i < 64 && rest > 0; i++) {
            int next = whole % rest;
            whole = rest;
            rest = next;
        }
        return (part == 0 ? above : below) / (whole > 0 ? whole : 1);
    }

    /** One of the people. */
    private static final class Person {
        private final int number;
        private int kind, v, born, life, has = DRY;
        private final int[] row = new int[4];

        Person(int number) {
            this.number = number;
        }

        void comeToLife(int kind, int v, int born, int life) {
            this.kind = kind;
            this.v = v;
            this.born = born;
            this.life = life;
            has = DRY;
            for (int i = 0; i < row.length; i++) {
                row[i] = 0;
            }
        }

        void become(Person other) {
            comeToLife(other.kind, other.v, other.born, other.life);
            has = other.has;
            System.arraycopy(other.row, 0, row, 0, row.length);
        }

        boolean isHereAt(int age) {
            return age >= 0 && age <= life;
        }

        int ageIn(int year, int y) {
            return ageHad(year, y, born, v);
        }

        /** The age in a year by wine of the year y, had it been born otherwise and were it otherwise firm. */
        int ageHad(int year, int y, int born, int v) {
            int plain = year - born;
            if (y < 0) {
                return plain;
            }
            switch (kind) {
                case HEAVY: return y - born - v;
                case LIGHT: return plain + (y - year) / 2;
                case STEADY: return plain;
                case DEEP: return y - born - v - v;
                case SIPPING: return Math.min(plain, plain + (y - year) / 2);
                case TOLD: return plain - row[y & 3];
                default: return y - born;
            }
        }
    }

    /** Rows told by hand. */
    private static final class Rows {
        private final int[] what, who, number;
        private int size;

        Rows(int most) {
            what = new int[most];
            who = new int[most];
            number = new int[most];
        }

        int empty() {
            size = 0;
            return 0;
        }

        int add(int what, int who, int number) {
            if (size >= this.what.length) {
                return FULL;
            }
            this.what[size] = what;
            this.who[size] = who;
            this.number[size] = number;
            size++;
            return size;
        }

        void become(Rows other) {
            empty();
            for (int i = 0; i < other.size; i++) {
                add(other.what[i], other.who[i], other.number[i]);
            }
        }
    }

    /** All that an image keeps. */
    private static final class World {
        private int year = FIRST_YEAR, people, vintages, villages, signs;
        private Village holds;
        private final Person[] folk = new Person[PEOPLE];
        private final int[] wineYear = new int[VINTAGES], bottles = new int[VINTAGES];
        private final char[] tape = new char[SIGNS];
        private final Rows seen = new Rows(SEEN_ROWS), night = new Rows(NIGHT_ROWS), book = new Rows(BOOK_ROWS);
        private final int[] facts = new int[Village.FACTS];

        World(Village holds) {
            this.holds = holds;
            for (int p = 0; p < PEOPLE; p++) {
                folk[p] = new Person(p);
            }
        }

        void become(World other) {
            year = other.year;
            people = other.people;
            vintages = other.vintages;
            villages = other.villages;
            signs = other.signs;
            holds = other.holds;
            for (int p = 0; p < people; p++) {
                folk[p].become(other.folk[p]);
            }
            System.arraycopy(other.wineYear, 0, wineYear, 0, VINTAGES);
            System.arraycopy(other.bottles, 0, bottles, 0, VINTAGES);
            System.arraycopy(other.tape, 0, tape, 0, SIGNS);
            seen.become(other.seen);
            night.become(other.night);
            book.become(other.book);
        }

        int addVintage(int year, int bottles) {
            wineYear[vintages] = year;
            this.bottles[vintages] = bottles;
            return vintages++;
        }

        int ageBy(int person, int has) {
            return folk[person].ageIn(year, has == DRY ? DRY : wineYear[has]);
        }

        int stageBy(int person, int has) {
            return stageAt(person, ageBy(person, has));
        }

        private int stageAt(int person, int age) {
            if (!folk[person].isHereAt(age)) {
                return 0;
            }
            if (age < holds.grown) {
                return 1;
            }
            return age >= holds.old ? 3 : 2;
        }

        int nerveBy(int person, int has) {
            int age = ageBy(person, has), stage = stageAt(person, age);
            if (stage == 0) {
                return 0;
            }
            facts[0] = person;
            facts[1] = folk[person].kind;
            facts[2] = folk[person].v;
            facts[3] = age / 10;
            facts[4] = stage;
            facts[5] = has == DRY ? DRY_FACT : has;
            return holds.nerveFor(facts);
        }

        int whoIsHere() {
            int bits = 0;
            for (int p = 0; p < people; p++) {
                if (stageBy(p, folk[p].has) > 0) {
                    bits |= 1 << p;
                }
            }
            return bits;
        }

        int nerveOfAll() {
            int sum = 0;
            for (int p = 0; p < people; p++) {
                sum += nerveBy(p, folk[p].has);
            }
            return sum;
        }

        int bottlesInAll() {
            int sum = 0;
            for (int w = 0; w < vintages; w++) {
                sum += bottles[w];
            }
            return sum;
        }

        boolean pourOut(int person, int vintage) {
            if (bottles[vintage] == 0) {
                return false;
            }
            bottles[vintage]--;
            folk[person].has = vintage;
            return true;
        }

        void growLight(int dawns) {
            year += dawns;
            for (int p = 0; p < people; p++) {
                folk[p].has = DRY;
            }
        }

        void liveThroughNight() {
            for (int i = 0; i < night.size; i++) {
                if (night.what[i] == 0) {
                    growLight(1);
                } else if (night.what[i] == 1) {
                    pourOut(night.who[i], night.number[i]);
                } else {
                    folk[night.who[i]].has = DRY;
                }
            }
        }

        /** Whether all that is seen of one fits, if it has this, was born then and is so firm. */
        boolean isAsSeen(int person, int has, int born, int v) {
            int age = folk[person].ageHad(year, has == DRY ? DRY : wineYear[has], born, v);
            for (int i = 0; i < seen.size; i++) {
                if (seen.who[i] == person && seen.number[i] != age) {
                    return false;
                }
            }
            return true;
        }
    }

    /** A village's clauses; the tests stand behind one another in postfix, so that asking them needs no recursion. */
    private static final class Village {
        private static final int FACTS = 6, NOT = -1, AND = -2, OR = -3;
        private int grown, old, clauses, steps;
        private final int[] step = new int[SIGNS];
        private final int[] nerve = new int[CLAUSES], end = new int[CLAUSES];

        Village() {
            forget();
        }

        void forget() {
            grown = 18;
            old = 60;
            clauses = 0;
            steps = 0;
        }

        void addStep(int code) {
            if (steps < step.length) {
                step[steps++] = code;
            }
        }

        static int testStep(int fact, int sign, int n) {
            return (fact * 3 + sign) * 100 + n;
        }

        /** Takes the steps added behind the last clause for the one that gives or takes so much nerve. */
        void endClause(int nerve) {
            if (clauses < CLAUSES) {
                this.nerve[clauses] = nerve;
                end[clauses] = steps;
                clauses++;
            }
        }

        int nerveFor(int[] facts) {
            int sum = 10, from = 0;
            for (int i = 0; i < clauses; i++) {
                if (holdsFor(facts, from, end[i])) {
                    sum += nerve[i];
                }
                from = end[i];
            }
            return Math.max(0, sum);
        }

        private boolean holdsFor(int[] facts, int from, int to) {
            // The bits are the stack, the last one its top: six levels of two waiting sides at most.
            int stack = 0;
            for (int i = from; i < to; i++) {
                int top = stack & 1;
                switch (step[i]) {
                    case NOT:
                        stack ^= 1;
                        break;
                    case AND:
                        stack = stack >> 1 & (~1 | top);
                        break;
                    case OR:
                        stack = stack >> 1 | top;
                        break;
                    default:
                        stack = stack << 1 | (passes(facts, step[i]) ? 1 : 0);
                }
            }
            return (stack & 1) == 1;
        }

        private static boolean passes(int[] facts, int code) {
            int fact = facts[code / 300], n = code % 100;
            switch (code / 100 % 3) {
                case 0: return fact < n;
                case 1: return fact == n;
                default: return fact > n;
            }
        }
    }

    /** Reads a village; when it fails, at is the fault: nothing is passed that no village goes on with. */
    private static final class Reader {
        private static final int NO_NUMBER = -1;
        private final char[] text;
        private final int size;
        private final Village village;
        private int at;

        Reader(char[] text, int size, Village village) {
            this.text = text;
            this.size = size;
            this.village = village;
        }

        boolean readVillage() {
            village.forget();
            for (int i = 1; i <= CLAUSES; i++) {
                if (!readClause()) {
                    return false;
                }
                if (at == size) {
                    return true;
                }
                if (i == CLAUSES || !takes(';')) {
                    return false;
                }
            }
            return false;
        }

        private boolean readClause() {
            if (takes('g')) {
                village.grown = takesAll("rown ") ? readNumber() : NO_NUMBER;
                return village.grown != NO_NUMBER;
            }
            if (takes('o')) {
                village.old = takesAll("ld ") ? readNumber() : NO_NUMBER;
                return village.old != NO_NUMBER;
            }
            int sign = takes('b') ? 1 : -1;
            if (!takesAll(sign > 0 ? "old " : "meek ")) {
                return false;
            }
            int n = readNumber();
            if (n == NO_NUMBER || !takes(' ') || !readEither(0)) {
                return false;
            }
            village.endClause(sign * n);
            return true;
        }

        /** An E within so many open ! and (. */
        private boolean readEither(int open) {
            boolean and = false, or = false;
            // Each turn passes a sign at least.
            for (int i = 0; i < SIGNS; i++) {
                if (!readFactor(open)) {
                    return false;
                }
                if (and) {
                    village.addStep(Village.AND);
                }
                and = takes('&');
                if (and) {
                    continue;
                }
                if (or) {
                    village.addStep(Village.OR);
                }
                or = takes('|');
                if (!or) {
                    return true;
                }
            }
            return false;
        }

        private boolean readFactor(int open) {
            if (open < OPEN && takes('!')) {
                boolean read = readFactor(open + 1);
                village.addStep(Village.NOT);
                return read;
            }
            if (open < OPEN && takes('(')) {
                return readEither(open + 1) && takes(')');
            }
            return readTest();
        }

        private boolean readTest() {
            int fact = readOneOf("pkvash");
            if (fact < 0) {
                return false;
            }
            int sign = readOneOf("<=>");
            if (sign < 0) {
                return false;
            }
            int n = readNumber();
            if (n == NO_NUMBER) {
                return false;
            }
            village.addStep(Village.testStep(fact, sign, n));
            return true;
        }

        /** One or two digits. */
        private int readNumber() {
            int n = at < size ? text[at] - '0' : NO_NUMBER;
            if (n < 0 || n > 9) {
                return NO_NUMBER;
            }
            at++;
            int next = at < size ? text[at] - '0' : NO_NUMBER;
            if (n == 0 || next < 0 || next > 9) {
                return n;
            }
            at++;
            return 10 * n + next;
        }

        /** Which of the signs comes, from 0 on; -1: none of them. */
        private int readOneOf(String signs) {
            int which = at < size ? signs.indexOf(text[at]) : -1;
            if (which >= 0) {
                at++;
            }
            return which;
        }

        private boolean takesAll(String signs) {
            for (int i = 0; i < signs.length(); i++) {
                if (!takes(signs.charAt(i))) {
                    return false;
                }
            }
            return true;
        }

        private boolean takes(char sign) {
            if (at >= size || text[at] != sign) {
                return false;
            }
            at++;
            return true;
        }
    }

    /** Goes through seatings in their order and keeps the first of the best. */
    private static final class Search {
        private static final int JUST_THESE = 0, ALL_CLOSE = 1, ALL_BOLD = 2;
        /** Choice 0 is none, choice c the vintage c - 1. */
        private static final int CHOICES = VINTAGES + 1;

        private final World world;
        private final int[][] age = new int[PEOPLE][CHOICES], nerve = new int[PEOPLE][CHOICES];
        /** By person, the choices that are looked at, as bits. */
        private final int[] may = new int[PEOPLE];
        private final int[] left = new int[CHOICES], seat = new int[PEOPLE], bestSeat = new int[PEOPLE];
        /** By person: how many from there on have one at least, at the least cost, and how bold those are at most. */
        private final int[] havingAhead = new int[PEOPLE + 1], nerveAhead = new int[PEOPLE + 1];
        /** By person: an age that one from there on has at most, and one that one has at least. */
        private final int[] lowAhead = new int[PEOPLE + 1], highAhead = new int[PEOPLE + 1];
        private int aim, bestCost, bestHaving;
        private boolean found;

        Search(World world) {
            this.world = world;
        }

        int answer(int aim, int set, int what) {
            begin(aim);
            boolean each = true;
            for (int p = world.people - 1; p >= 0; p--) {
                layChoices(p, (set >> p & 1) == 1);
                lookAhead(p);
                each = each && may[p] != 0;
            }
            if (each) {
                sit(0, 0, FAR, -FAR, 0);
            }
            return found ? result(what) : NOT_SO;
        }

        private void begin(int aim) {
            this.aim = aim;
            found = false;
            bestCost = FAR;
            bestHaving = FAR;
            left[0] = PEOPLE;
            for (int w = 0; w < world.vintages; w++) {
                left[w + 1] = world.bottles[w];
            }
            havingAhead[world.people] = 0;
            nerveAhead[world.people] = 0;
            lowAhead[world.people] = FAR;
            highAhead[world.people] = -FAR;
        }

        private int result(int what) {
            if (what >= 10) {
                return shown(bestSeat[what - 10] - 1);
            }
            switch (aim) {
                case JUST_THESE: return bestHaving;
                case ALL_CLOSE: return bestCost;
                default: return -bestCost;
            }
        }

        private void layChoices(int p, boolean inSet) {
            may[p] = 0;
            for (int c = 0; c <= world.vintages; c++) {
                age[p][c] = world.ageBy(p, c - 1);
                nerve[p][c] = aim == ALL_BOLD ? world.nerveBy(p, c - 1) : 0;
                boolean here = world.stageBy(p, c - 1) > 0;
                boolean fits = aim == ALL_BOLD || here == (aim == ALL_CLOSE || inSet);
                if (fits && left[c] > 0 && !isWasted(p, c)) {
                    may[p] |= 1 << c;
                }
            }
        }

        /** Whether having none does as well: then no best seating has this, for with none fewer would have one. */
        private boolean isWasted(int p, int c) {
            if (c == 0 || (may[p] & 1) == 0) {
                return false;
            }
            switch (aim) {
                case JUST_THESE: return true;
                case ALL_CLOSE: return age[p][c] == age[p][0];
                default: return nerve[p][c] <= nerve[p][0];
            }
        }

        private void lookAhead(int p) {
            int boldest = 0, youngest = FAR, oldest = -FAR;
            for (int c = 0; c <= world.vintages; c++) {
                if ((may[p] >> c & 1) == 1) {
                    boldest = Math.max(boldest, nerve[p][c]);
                    youngest = Math.min(youngest, age[p][c]);
                    oldest = Math.max(oldest, age[p][c]);
                }
            }
            // Where it costs as little as it can, one that can be bolder by wine has some.
            boolean has = aim == ALL_BOLD ? may[p] != 1 : (may[p] & 1) == 0;
            havingAhead[p] = havingAhead[p + 1] + (has ? 1 : 0);
            nerveAhead[p] = nerveAhead[p + 1] + boldest;
            lowAhead[p] = Math.min(lowAhead[p + 1], oldest);
            highAhead[p] = Math.max(highAhead[p + 1], youngest);
        }

        /** Seats those from p on; of the others, who are seated, so many have one, with such ages and nerve. */
        private void sit(int p, int having, int low, int high, int bold) {
            int cost = leastCost(p, low, high, bold);
            if (!isBetter(cost, having + havingAhead[p])) {
                return;
            }
            if (p >= world.people) {
                keep(cost, having);
                return;
            }
            for (int c = 0; c <= world.vintages; c++) {
                if ((may[p] >> c & 1) == 1 && left[c] > 0) {
                    left[c]--;
                    seat[p] = c;
                    int a = age[p][c];
                    sit(p + 1, c == 0 ? having : having + 1, Math.min(low, a), Math.max(high, a), bold + nerve[p][c]);
                    left[c]++;
                }
            }
        }

        /** What any seating costs at least that goes on from here. */
        private int leastCost(int p, int low, int high, int bold) {
            switch (aim) {
                case JUST_THESE: return 0;
                case ALL_CLOSE: return Math.max(0, Math.max(high, highAhead[p]) - Math.min(low, lowAhead[p]));
                default: return -bold - nerveAhead[p];
            }
        }

        private boolean isBetter(int cost, int having) {
            return cost < bestCost || (cost == bestCost && having < bestHaving);
        }

        private void keep(int cost, int having) {
            found = true;
            bestCost = cost;
            bestHaving = having;
            System.arraycopy(seat, 0, bestSeat, 0, PEOPLE);
        }
    }

    /** Does acts, and keeps which bodies ran. */
    private static final class Acts {
        private static final int DRINKS = 0, AGES = 1, TELLS = 2;
        /** By kind and act, the number of the body; 0: there is none. */
        private static final int[] BODY = {
            1, 2, 3,
            11, 0, 0,
            0, 21, 0,
            0, 0, 31,
            0, 0, 41,
            51, 0, 0,
            0, 61, 0};
        /** Deeper than any of the bodies call one another. */
        private static final int DEEPEST = 12;

        private final int[] bodies = new int[KEPT_BODIES];
        private int ran;

        /** What one's act by the body of a kind, or of the next above that has one, answers. */
        private int perform(Person one, int act, int kind, int x, int depth) {
            int at = kind;
            for (int up = 0; up < ABOVE.length && at > PERSON && BODY[3 * at + act] == 0; up++) {
                at = ABOVE[at];
            }
            int body = BODY[3 * at + act];
            begin(body);
            int deeper = depth + 1, i = one.number, v = one.v;
            if (deeper > DEEPEST) {
                return 0;
            }
            switch (body) {
                case 1: return x + i;
                case 2: return perform(one, DRINKS, one.kind, x, deeper) - v;
                case 3: return perform(one, AGES, one.kind, x, deeper) * 2;
                case 11: return perform(one, DRINKS, ABOVE[HEAVY], x * 3, deeper);
                case 21: return -perform(one, AGES, ABOVE[LIGHT], x, deeper);
                case 31: return perform(one, TELLS, ABOVE[STEADY], x, deeper) ^ 7;
                case 41: return perform(one, TELLS, ABOVE[DEEP], x - 1, deeper) + perform(one, DRINKS, one.kind, 2, deeper);
                case 51: return perform(one, DRINKS, ABOVE[SIPPING], x, deeper) ^ i;
                case 61: return perform(one, AGES, ABOVE[TOLD], x, deeper) + v;
                default: return 0;
            }
        }

        private void begin(int body) {
            if (ran < bodies.length) {
                bodies[ran] = body;
            }
            ran++;
        }
    }
}
