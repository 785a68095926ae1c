import java.util.Arrays;

/**
 * A tower whose braces bear winds on its faces and across its corners. What each call answers is said by the
 * promises of the project's document; README.md says how to use the class.
 */
public final class CornerWinds {
    public static final int NONE = -1;

    private static final long NOTHING = -1_000_000_000_000L;

    // What a call is REFUSED by.
    private static final int BAD_NUMBER = -1;
    private static final int NO_SUCH = -2;
    private static final int NOT_AS_IT_STANDS = -3;
    private static final int TWICE = -4;
    private static final int NO_ROOM = -5;
    private static final int UNREADABLE = -6;

    private static final int TIERS = 6;
    private static final int FACES = 4;
    private static final int TIER_JOINTS = 8;
    private static final int JOINTS = 48;
    private static final int STIFF_FIRST = 5;
    private static final int STIFF_MOST = 9;
    private static final int AREA_FIRST = 10;
    private static final int AREA_MOST = 20;
    private static final int DEAD_MOST = 100_000;
    private static final int WHOLE_PLATE = 4;

    // The numbers of terms().
    private static final int WELD = 0;
    private static final int BOLT = 1;
    private static final int LEVER = 2;
    private static final int LEG = 3;
    private static final int SWIM = 4;
    private static final int FAILS = 5;
    private static final int CALLING = 6;
    private static final int LOSS = 7;
    private static final int LEAD = 8;
    private static final int[] TERM_LEAST = {1, 1, 0, 0, 0, 0, 0, 0, 1};
    private static final int[] TERM_MOST = {100_000, 100_000, 100, 10, 50, 100, 1000, 1000, 40};
    private static final int[] TERM_FIRST = {1000, 100, 10, 0, 0, 0, 1, 10, 1};

    private static final int WAYS = 8;
    private static final int[] WAY_EAST = {10, 7, 0, -7, -10, -7, 0, 7};
    private static final int[] WAY_NORTH = {0, 7, 10, 7, 0, -7, -10, -7};

    private static final int WINDS_MOST = 16;
    private static final int TEXTS_MOST = 8;
    private static final int STEPS_MOST = 60;
    private static final int WISHES_MOST = 9;
    private static final int STREETS_MOST = 32;
    private static final int STORMS_MOST = 20;
    private static final int HOURS_MOST = 40;
    private static final int TOWERS_MOST = 12;
    private static final int IMAGES = 2;
    private static final int TAPE_MOST = 400;

    private static final int PERSONS = 8;
    private static final int FACTS = 8;
    private static final int LAST_DAY = 9999;
    private static final int NEVER = LAST_DAY + 1;

    private static final int HUNDRED = 100;
    private static final int FLOOR_HEIGHT = 3;

    // Columns of the tables.
    private static final int WIND_WAY = 0;
    private static final int WIND_FORCE = 1;
    private static final int WIND_ODDS = 2;
    private static final int WIND_COLUMNS = 3;
    private static final int STEP_DAY = 0;
    private static final int STEP_JOINT = 1;
    private static final int STEP_KIND = 2;
    private static final int STEP_PERSON = 3;
    private static final int STEP_TEXT = 4;
    private static final int STEP_LET = 5;
    private static final int STEP_COLUMNS = 6;
    private static final int STREET_WAY = 0;
    private static final int STREET_FAR = 1;
    private static final int STREET_PEOPLE = 2;
    private static final int STREET_COLUMNS = 3;
    private static final int STORM_CAME = 0;
    private static final int STORM_HOURS = 1;
    private static final int STORM_ODDS = 2;
    private static final int STORM_COLUMNS = STORM_ODDS + HOURS_MOST;
    private static final int TOWER_FLOORS = 0;
    private static final int TOWER_AGE = 1;
    private static final int TOWER_BRACES = 2;
    private static final int TOWER_LEG = 3;
    private static final int TOWER_BOLTED = 4;
    private static final int TOWER_COLUMNS = 5;

    // A bit for each wind (by twos) and current: odd ones are with current.
    private static final int WITH_CURRENT = 0xAAAAAAAA;
    private static final int EITHER = -1;

    private final State now = new State();
    private final State[] images = new State[IMAGES];
    private final Bearing bearing = new Bearing(now);
    private final Mending mending = new Mending(now, bearing);
    private final Reader reader = new Reader();
    private final Asker asker = new Asker();
    private final int[] tape = new int[TAPE_MOST];
    private int tapeLength = 0;
    private int fault = NONE;
    private int refusedBy = 0;

    public CornerWinds() {
    }

    public int stiff(int joint, int value) {
        if (!isJoint(joint) || value < 1 || value > STIFF_MOST) {
            return refuse(BAD_NUMBER);
        }
        int was = now.stiff[joint];
        now.stiff[joint] = value;
        return accept(was);
    }

    public int tier(int tier, int what, int value) {
        if (!isWithin(tier, 0, TIERS - 1) || !isWithin(what, 0, 1)
                || !isWithin(value, 0, what == 0 ? AREA_MOST : DEAD_MOST)) {
            return refuse(BAD_NUMBER);
        }
        int[] values = what == 0 ? now.area : now.dead;
        int was = values[tier];
        values[tier] = value;
        return accept(was);
    }

    public int terms(int what, int value) {
        if (!isWithin(what, 0, LEAD) || !isWithin(value, TERM_LEAST[what], TERM_MOST[what])) {
            return refuse(BAD_NUMBER);
        }
        int weld = what == WELD ? value : now.terms[WELD];
        int bolt = what == BOLT ? value : now.terms[BOLT];
        if (bolt > weld) {
            return refuse(NOT_AS_IT_STANDS);
        }
        int was = now.terms[what];
        now.terms[what] = value;
        return accept(was);
    }

    public int wind(int way, int force, int odds) {
        if (!isWay(way) || !isWithin(force, 1, 100) || !isWithin(odds, 1, 1_000_000)) {
            return refuse(BAD_NUMBER);
        }
        if (now.winds.isFull()) {
            return refuse(NO_ROOM);
        }
        now.winds.open();
        now.winds.put(WIND_WAY, way);
        now.winds.put(WIND_FORCE, force);
        now.winds.put(WIND_ODDS, odds);
        return accept(now.winds.size - 1);
    }

    public int plate(int joint, int quarters) {
        if (!isJoint(joint) || !isWithin(quarters, 0, WHOLE_PLATE)) {
            return refuse(BAD_NUMBER);
        }
        if (now.bolted[joint] == 0) {
            return refuse(NOT_AS_IT_STANDS);
        }
        int had = now.quarters[joint];
        now.quarters[joint] = quarters;
        return accept(had);
    }

    public int joint(int joint, int what) {
        if (!isJoint(joint)) {
            return NONE;
        }
        switch (what) {
            case 0: return now.bolted[joint];
            case 1: return now.quarters[joint];
            case 2: return now.holdOf(joint);
            case 3: return now.stiff[joint];
            default: return NONE;
        }
    }

    public long tension(int wind, int joint, int current) {
        if (!isBlowing(wind, current) || !isJoint(joint)) {
            return NOTHING;
        }
        bearing.ready();
        bearing.blow(wind, current);
        if (!bearing.stands(joint / TIER_JOINTS, 0)) {
            return NOTHING;
        }
        return bearing.thousandths(joint);
    }

    public int goes(int wind, int current, int i) {
        if (!isBlowing(wind, current)) {
            return NONE;
        }
        bearing.ready();
        bearing.breakUp(wind, current);
        if (i == NONE) {
            return bearing.lost;
        }
        return isWithin(i, 0, bearing.lost - 1) ? bearing.order[i] : NONE;
    }

    public int falls(int wind, int current) {
        if (!isBlowing(wind, current)) {
            return NONE;
        }
        bearing.ready();
        bearing.breakUp(wind, current);
        return bearing.fallen;
    }

    public int feed(int a, int b, int c, int d, int e) {
        if (tapeLength + 20 > TAPE_MOST) {
            return NONE;
        }
        writeBytes(a);
        writeBytes(b);
        writeBytes(c);
        writeBytes(d);
        writeBytes(e);
        return tapeLength;
    }

    public int end(int n) {
        if (!isWithin(n, 0, tapeLength)) {
            return NONE;
        }
        tapeLength = n;
        return n;
    }

    public int rule() {
        int length = takeTape();
        if (now.textCount >= TEXTS_MOST) {
            return refuse(NO_ROOM);
        }
        Text text = reader.read(tape, length);
        if (text == null) {
            fault = reader.start;
            return refuse(UNREADABLE);
        }
        fault = NONE;
        now.texts[now.textCount] = text;
        now.textCount++;
        return accept(now.textCount - 1);
    }

    public int fault() {
        return fault;
    }

    public int need(int text, int joint, int day) {
        Text rules = textAt(text);
        if (rules == null || !isJoint(joint) || !isDay(day)) {
            return NONE;
        }
        return needBy(rules, joint, day);
    }

    public int step(int day, int joint, int kind, int person, int text) {
        if (!isDay(day) || !isJoint(joint) || !isWithin(kind, 0, 1) || !isPerson(person)) {
            return refuse(BAD_NUMBER);
        }
        Text rules = textAt(text);
        if (rules == null) {
            return refuse(NO_SUCH);
        }
        Table steps = now.steps;
        if (steps.size > 0 && day < steps.cell(steps.size - 1, STEP_DAY)) {
            return refuse(NOT_AS_IT_STANDS);
        }
        if (steps.isFull()) {
            return refuse(NO_ROOM);
        }
        now.bolted[joint] = kind;
        now.quarters[joint] = 0;
        // Asked only now: the rules judge the joint as it is behind the step.
        int let = now.holdOf(joint) >= needBy(rules, joint, day) ? 1 : 0;
        steps.open();
        steps.put(STEP_DAY, day);
        steps.put(STEP_JOINT, joint);
        steps.put(STEP_KIND, kind);
        steps.put(STEP_PERSON, person);
        steps.put(STEP_TEXT, text);
        steps.put(STEP_LET, let);
        return accept(let);
    }

    public int drawing(int i, int what) {
        if (!isWithin(i, 0, now.steps.size - 1) || !isWithin(what, 0, STEP_COLUMNS - 1)) {
            return NONE;
        }
        return now.steps.cell(i, what);
    }

    public int saw() {
        bearing.ready();
        Arrays.fill(bearing.holds, now.terms[WELD]);
        int ahead = bearing.fallsOfAll(WITH_CURRENT);
        for (int i = 0; i < now.steps.size; i++) {
            int joint = now.steps.cell(i, STEP_JOINT);
            if (!isJoint(joint)) {
                continue;
            }
            bearing.holds[joint] = now.terms[now.steps.cell(i, STEP_KIND) == 0 ? WELD : BOLT];
            int behind = bearing.fallsAnew(joint / TIER_JOINTS, WITH_CURRENT);
            if ((behind & ~ahead) != 0) {
                return i;
            }
            ahead = behind;
        }
        return NONE;
    }

    public int odds(int what) {
        if (!isWithin(what, 0, 2)) {
            return NONE;
        }
        bearing.ready();
        int bits = bearing.fallsOfAll(now.currents());
        int fails = now.terms[FAILS];
        int year = now.yearOf(bits, fails);
        if (what == 1) {
            return now.yearOf(bits, HUNDRED) - year;
        }
        return what == 0 ? year : year - now.yearOf(bits, fails * fails / HUNDRED);
    }

    public int wish(int joint) {
        if (!isJoint(joint)) {
            return refuse(BAD_NUMBER);
        }
        if (now.bolted[joint] == 0) {
            return refuse(NOT_AS_IT_STANDS);
        }
        if (mending.isWished(joint)) {
            return refuse(TWICE);
        }
        if (mending.size >= WISHES_MOST) {
            return refuse(NO_ROOM);
        }
        mending.wished[mending.size] = joint;
        mending.size++;
        return accept(mending.size);
    }

    public int clear() {
        int were = mending.size;
        mending.size = 0;
        return were;
    }

    public long best() {
        if (!mending.canBe()) {
            return NONE;
        }
        mending.weighSets();
        mending.weighRows();
        mending.keepRow();
        return mending.risk[0];
    }

    public int night(int night) {
        return isWithin(night, 0, mending.nights - 1) ? mending.latest[night] : NONE;
    }

    public long low() {
        if (!mending.canBe()) {
            return NONE;
        }
        mending.weighSets();
        return mending.leastSum();
    }

    public int enough(int joint) {
        if (!isJoint(joint)) {
            return NONE;
        }
        bearing.ready();
        return bearing.facesAreEnough(joint) ? 1 : 0;
    }

    public int move() {
        bearing.ready();
        for (int leg = now.terms[LEG]; leg <= TERM_MOST[LEG]; leg++) {
            bearing.standLegAt(leg);
            if (bearing.facesAreEnoughForAll()) {
                return leg;
            }
        }
        return NONE;
    }

    public int find(int person, int fact, int day) {
        if (!isPerson(person) || !isFact(fact) || !isDay(day)) {
            return refuse(BAD_NUMBER);
        }
        now.learn(person, fact, day);
        return accept(0);
    }

    public int tell(int from, int to, int fact, int day) {
        if (!isPerson(from) || !isPerson(to) || !isFact(fact) || !isDay(day)) {
            return refuse(BAD_NUMBER);
        }
        if (now.known[from * FACTS + fact] > day) {
            return refuse(NOT_AS_IT_STANDS);
        }
        now.learn(to, fact, day);
        return accept(0);
    }

    public int knew(int person, int fact) {
        if (!isPerson(person) || !isFact(fact)) {
            return NONE;
        }
        int day = now.known[person * FACTS + fact];
        return day == NEVER ? NONE : day;
    }

    public int owed(int person, int day, int grace) {
        if (!isPerson(person) || !isDay(day) || !isWithin(grace, 0, LAST_DAY)) {
            return NONE;
        }
        int facts = 0;
        for (int fact = 0; fact < FACTS; fact++) {
            if (now.known[person * FACTS + fact] > day && now.firstOfOthers(person, fact) <= day - grace) {
                facts++;
            }
        }
        return facts;
    }

    public int street(int way, int far, int people) {
        if (!isWay(way) || !isWithin(far, 1, 20) || !isWithin(people, 0, 10_000)) {
            return refuse(BAD_NUMBER);
        }
        if (now.streets.isFull()) {
            return refuse(NO_ROOM);
        }
        now.streets.open();
        now.streets.put(STREET_WAY, way);
        now.streets.put(STREET_FAR, far);
        now.streets.put(STREET_PEOPLE, people);
        return accept(now.streets.size - 1);
    }

    public int under(int wind, int current) {
        if (!isBlowing(wind, current)) {
            return NONE;
        }
        bearing.ready();
        bearing.breakUp(wind, current);
        if (bearing.fallen == NONE) {
            return 0;
        }
        return now.peopleUnder(now.winds.cell(wind, WIND_WAY), FLOOR_HEIGHT * (TIERS - bearing.fallen));
    }

    public int row() {
        int hours = takeTape() - 1;
        if (now.storms.isFull()) {
            return refuse(NO_ROOM);
        }
        if (!isWithin(hours, 1, HOURS_MOST) || tape[0] > 1) {
            return refuse(UNREADABLE);
        }
        now.storms.open();
        now.storms.put(STORM_CAME, tape[0]);
        now.storms.put(STORM_HOURS, hours);
        int told = 0;
        for (int hour = 0; hour < hours; hour++) {
            // A missing hour tells again what the one ahead of it did.
            told = tape[hour + 1] > HUNDRED ? told : tape[hour + 1];
            now.storms.put(STORM_ODDS + hour, told);
        }
        return accept(now.storms.size);
    }

    public int call(int limit) {
        return isWithin(limit, 0, HUNDRED) ? now.costAt(limit) : NONE;
    }

    public int when() {
        if (now.storms.size == 0) {
            return NONE;
        }
        int cheapest = 0;
        int least = now.costAt(0);
        for (int limit = 1; limit <= HUNDRED; limit++) {
            int cost = now.costAt(limit);
            if (cost <= least) {
                cheapest = limit;
                least = cost;
            }
        }
        return cheapest;
    }

    public int tower(int floors, int age, int braces, int leg, int bolted) {
        if (!isWithin(floors, 1, 200) || !isWithin(age, 0, 100) || !isWithin(braces, 0, 400)
                || !isWithin(leg, 0, TERM_MOST[LEG]) || !isWithin(bolted, 0, 1)) {
            return refuse(BAD_NUMBER);
        }
        if (now.towers.isFull()) {
            return refuse(NO_ROOM);
        }
        now.towers.open();
        now.towers.put(TOWER_FLOORS, floors);
        now.towers.put(TOWER_AGE, age);
        now.towers.put(TOWER_BRACES, braces);
        now.towers.put(TOWER_LEG, leg);
        now.towers.put(TOWER_BOLTED, bolted);
        return accept(now.towers.size - 1);
    }

    public int first(int text) {
        Text rules = textAt(text);
        if (rules == null) {
            return NONE;
        }
        int foremost = NONE;
        long most = 0;
        for (int i = 0; i < now.towers.size; i++) {
            asker.faceTower(now, i);
            if (asker.tells(rules, Reader.LOOK) && (foremost == NONE || asker.told > most)) {
                foremost = i;
                most = asker.told;
            }
        }
        return foremost;
    }

    public int image(int k) {
        if (!isWithin(k, 0, IMAGES - 1)) {
            return refuse(BAD_NUMBER);
        }
        State kept = images[k];
        if (kept == null) {
            kept = new State();
            images[k] = kept;
        }
        kept.become(now);
        return accept(0);
    }

    public int back(int k) {
        if (!isWithin(k, 0, IMAGES - 1)) {
            return refuse(BAD_NUMBER);
        }
        State kept = images[k];
        if (kept == null) {
            return refuse(NO_SUCH);
        }
        now.become(kept);
        return accept(0);
    }

    public int count(int what) {
        switch (what) {
            case 0: return now.winds.size;
            case 1: return now.textCount;
            case 2: return now.steps.size;
            case 3: return mending.size;
            case 4: return now.streets.size;
            case 5: return now.storms.size;
            case 6: return now.towers.size;
            case 7: return tapeLength;
            default: return NONE;
        }
    }

    public int status() {
        return refusedBy;
    }

    private int refuse(int why) {
        refusedBy = why;
        return why;
    }

    private int accept(int answer) {
        refusedBy = 0;
        return answer;
    }

    private static boolean isWithin(int value, int least, int most) {
        return value >= least && value <= most;
    }

    private static boolean isJoint(int joint) {
        return joint >= 0 && joint < JOINTS;
    }

    private static boolean isWay(int way) {
        return way >= 0 && way < WAYS;
    }

    private static boolean isDay(int day) {
        return day >= 0 && day <= LAST_DAY;
    }

    private static boolean isPerson(int person) {
        return person >= 0 && person < PERSONS;
    }

    private static boolean isFact(int fact) {
        return fact >= 0 && fact < FACTS;
    }

    private boolean isBlowing(int wind, int current) {
        return wind >= 0 && wind < now.winds.size && (current == 0 || current == 1);
    }

    private Text textAt(int text) {
        return text >= 0 && text < now.textCount && text < TEXTS_MOST ? now.texts[text] : null;
    }

    private void writeBytes(int number) {
        for (int shift = 24; shift >= 0; shift -= 8) {
            if (tapeLength >= TAPE_MOST) {
                return;
            }
            tape[tapeLength] = (number >>> shift) & 255;
            tapeLength++;
        }
    }

    /** How many bytes the tape has; it is empty behind this, whatever becomes of them: their values stay to be read. */
    private int takeTape() {
        int length = tapeLength;
        tapeLength = 0;
        return length;
    }

    private int needBy(Text rules, int joint, int day) {
        long most = 0;
        bearing.ready();
        for (int wind = 0; wind < now.winds.size; wind++) {
            bearing.blow(wind, 1);
            boolean onFace = now.isOnFace(wind);
            int load = bearing.stands(joint / TIER_JOINTS, 0) ? bearing.loadOf(joint) : 0;
            asker.faceJoint(now, joint, day);
            asker.faceWind(load, onFace);
            boolean asked = onFace || asker.tells(rules, Reader.EDGE);
            if (asked && asker.tells(rules, Reader.NEED)) {
                most = Math.max(most, asker.told);
            }
        }
        return (int) most;
    }

    /** Rows of numbers of one width, as many as there is room for. */
    private static final class Table {
        final int width;
        final int[] cells;
        int size = 0;

        Table(int width, int most) {
            this.width = width;
            this.cells = new int[width * most];
        }

        boolean isFull() {
            return (size + 1) * width > cells.length;
        }

        void open() {
            if (!isFull()) {
                size++;
            }
        }

        /** Writes into the newest row. */
        void put(int column, int value) {
            if (size > 0 && column >= 0 && column < width) {
                cells[(size - 1) * width + column] = value;
            }
        }

        int cell(int row, int column) {
            if (row < 0 || row >= size || column < 0 || column >= width) {
                return 0;
            }
            return cells[row * width + column];
        }

        void become(Table other) {
            int used = Math.min(cells.length, other.size * other.width);
            System.arraycopy(other.cells, 0, cells, 0, used);
            size = other.size;
        }
    }

    /** All that an IMAGE keeps. */
    private static final class State {
        final int[] stiff = new int[JOINTS];
        final int[] bolted = new int[JOINTS];
        final int[] quarters = new int[JOINTS];
        final int[] area = new int[TIERS];
        final int[] dead = new int[TIERS];
        final int[] terms = new int[LEAD + 1];
        final int[] known = new int[PERSONS * FACTS];
        final Table winds = new Table(WIND_COLUMNS, WINDS_MOST);
        final Table steps = new Table(STEP_COLUMNS, STEPS_MOST);
        final Table streets = new Table(STREET_COLUMNS, STREETS_MOST);
        final Table storms = new Table(STORM_COLUMNS, STORMS_MOST);
        final Table towers = new Table(TOWER_COLUMNS, TOWERS_MOST);
        final Text[] texts = new Text[TEXTS_MOST];
        int textCount = 0;

        State() {
            Arrays.fill(stiff, STIFF_FIRST);
            Arrays.fill(area, AREA_FIRST);
            Arrays.fill(known, NEVER);
            System.arraycopy(TERM_FIRST, 0, terms, 0, LEAD + 1);
        }

        void become(State other) {
            System.arraycopy(other.stiff, 0, stiff, 0, JOINTS);
            System.arraycopy(other.bolted, 0, bolted, 0, JOINTS);
            System.arraycopy(other.quarters, 0, quarters, 0, JOINTS);
            System.arraycopy(other.area, 0, area, 0, TIERS);
            System.arraycopy(other.dead, 0, dead, 0, TIERS);
            System.arraycopy(other.terms, 0, terms, 0, LEAD + 1);
            System.arraycopy(other.known, 0, known, 0, PERSONS * FACTS);
            winds.become(other.winds);
            steps.become(other.steps);
            streets.become(other.streets);
            storms.become(other.storms);
            towers.become(other.towers);
            // A text never changes once it is read, so both may hold the same one.
            for (int i = 0; i < TEXTS_MOST; i++) {
                texts[i] = other.texts[i];
            }
            textCount = other.textCount;
        }

        int holdOf(int joint) {
            int weld = terms[WELD];
            int bolt = terms[BOLT];
            return bolted[joint] == 0 ? weld : bolt + (weld - bolt) * quarters[joint] / WHOLE_PLATE;
        }

        boolean isOnFace(int wind) {
            return winds.cell(wind, WIND_WAY) % 2 == 0;
        }

        /** The bits of all that a year hangs on: while nothing swims, current changes nothing. */
        int currents() {
            return terms[SWIM] == 0 ? WITH_CURRENT : EITHER;
        }

        /** ODDS of a year, if it falls by those bits of currents(), and the current fails so often. */
        int yearOf(int bits, int fails) {
            int year = 0;
            for (int wind = 0; wind < winds.size; wind++) {
                int with = bits >>> (2 * wind + 1) & 1;
                int without = terms[SWIM] == 0 ? with : bits >>> (2 * wind) & 1;
                year += winds.cell(wind, WIND_ODDS) * (with * (HUNDRED - fails) + without * fails);
            }
            return year;
        }

        void learn(int person, int fact, int day) {
            int at = person * FACTS + fact;
            known[at] = Math.min(known[at], day);
        }

        int firstOfOthers(int person, int fact) {
            int day = NEVER;
            for (int other = 0; other < PERSONS; other++) {
                if (other != person) {
                    day = Math.min(day, known[other * FACTS + fact]);
                }
            }
            return day;
        }

        int peopleUnder(int way, int height) {
            int people = 0;
            for (int i = 0; i < streets.size; i++) {
                int turn = (streets.cell(i, STREET_WAY) - way) & (WAYS - 1);
                int reach = turn == 0 ? height : turn == 1 || turn == WAYS - 1 ? height / 2 : 0;
                if (streets.cell(i, STREET_FAR) <= reach) {
                    people += streets.cell(i, STREET_PEOPLE);
                }
            }
            return people;
        }

        int costAt(int limit) {
            int cost = 0;
            for (int i = 0; i < storms.size; i++) {
                int left = hoursLeft(i, limit);
                if (left > 0) {
                    cost += terms[CALLING];
                }
                if (storms.cell(i, STORM_CAME) == 1 && left < terms[LEAD]) {
                    cost += terms[LOSS];
                }
            }
            return cost;
        }

        /** How many hours are left when a storm is called, that one too; 0 if it is not called. */
        private int hoursLeft(int storm, int limit) {
            int hours = storms.cell(storm, STORM_HOURS);
            for (int hour = 0; hour < hours; hour++) {
                if (storms.cell(storm, STORM_ODDS + hour) >= limit) {
                    return hours - hour;
                }
            }
            return 0;
        }
    }

    /**
     * Bears one wind at a time: what the faces of a tier take, which joints go, whether it falls.
     * All is held in thousandths over a common divisor for each face, so that nothing is cut; the greatest
     * numbers of the document stay below 2 to the 60th.
     */
    private static final class Bearing {
        private static final int NORTH = 0;
        private static final int EAST = 1;
        private static final int SOUTH = 2;
        private static final int WEST = 3;
        private static final int THOUSAND = 1000;

        final State state;
        final int[] holds = new int[JOINTS];
        final int[] order = new int[JOINTS];
        int lost = 0;
        int fallen = NONE;
        private final int[] area = new int[TIERS];
        private final int[] leverArea = new int[TIERS];
        private int lean = 0;
        private long east = 0;
        private long north = 0;
        private final int[] gone = new int[TIERS];
        private final int[] worst = new int[TIERS];
        private final long[] excess = new long[TIERS];
        private final int[] tierFalls = new int[TIERS];
        private final int[] faceStiff = new int[FACES];
        private final long[] shift = new long[FACES];
        private final long[] upright = new long[FACES];
        private final long[] divisor = new long[FACES];

        Bearing(State state) {
            this.state = state;
        }

        /** Takes up what stands now; to be called ahead of all else. */
        void ready() {
            int sum = 0;
            int leverSum = 0;
            for (int tier = TIERS - 1; tier >= 0; tier--) {
                sum += state.area[tier];
                leverSum += sum;
                area[tier] = sum;
                leverArea[tier] = leverSum;
            }
            for (int joint = 0; joint < JOINTS; joint++) {
                holds[joint] = state.holdOf(joint);
            }
            standLegAt(state.terms[LEG]);
        }

        void standLegAt(int leg) {
            lean = state.terms[LEVER] * (TERM_MOST[LEG] - leg);
        }

        void blow(int wind, int current) {
            int way = state.winds.cell(wind, WIND_WAY) & (WAYS - 1);
            int swum = current == 1 ? HUNDRED - state.terms[SWIM] : HUNDRED;
            long force = (long) state.winds.cell(wind, WIND_FORCE) * swum;
            east = force * WAY_EAST[way];
            north = force * WAY_NORTH[way];
        }

        /** Whether a tier stands without the joints whose bits are set; if so, what its faces take is solved. */
        boolean stands(int tier, int without) {
            addStiffs(tier, without);
            long n = faceStiff[NORTH];
            long e = faceStiff[EAST];
            long s = faceStiff[SOUTH];
            long w = faceStiff[WEST];
            long whole = n * s * (e + w) + e * w * (n + s);
            if (whole == 0) {
                return false;
            }
            long x = east * area[tier];
            long y = north * area[tier];
            shift[NORTH] = x * (2 * e * w + s * (e + w)) + y * s * (e - w);
            shift[SOUTH] = x * (2 * e * w + n * (e + w)) - y * n * (e - w);
            shift[EAST] = y * (2 * n * s + w * (n + s)) - x * w * (s - n);
            shift[WEST] = y * (2 * n * s + e * (n + s)) + x * e * (s - n);
            long up = (long) leverArea[tier] * lean;
            upright[NORTH] = north * up;
            upright[SOUTH] = -upright[NORTH];
            upright[EAST] = east * up;
            upright[WEST] = -upright[EAST];
            return hasCommonDivisors(2 * whole);
        }

        private void addStiffs(int tier, int without) {
            for (int face = 0; face < FACES; face++) {
                int left = tier * TIER_JOINTS + 2 * face;
                int leftStiff = (without >>> (2 * face) & 1) == 0 ? state.stiff[left] : 0;
                int rightStiff = (without >>> (2 * face + 1) & 1) == 0 ? state.stiff[left + 1] : 0;
                faceStiff[face] = leftStiff + rightStiff;
            }
        }

        /** Brings both parts of each face over one divisor; false if a face without a brace has an upright. */
        private boolean hasCommonDivisors(long whole) {
            for (int face = 0; face < FACES; face++) {
                if (faceStiff[face] == 0 && upright[face] != 0) {
                    return false;
                }
                long part = (long) THOUSAND * faceStiff[face];
                shift[face] *= part;
                upright[face] *= whole;
                divisor[face] = part * whole;
            }
            return true;
        }

        /** What a joint's brace bears besides the dead weight, over its face's divisor. */
        private long pullOf(int joint) {
            int face = faceOf(joint);
            long shifted = joint % 2 == 0 ? shift[face] : -shift[face];
            return state.stiff[joint] * (shifted + upright[face]);
        }

        static int faceOf(int joint) {
            return joint / 2 % FACES;
        }

        long thousandths(int joint) {
            long by = divisor[faceOf(joint)];
            long dead = (long) THOUSAND * state.dead[joint / TIER_JOINTS];
            return by == 0 ? NOTHING : (pullOf(joint) - dead * by) / by;
        }

        int loadOf(int joint) {
            long by = divisor[faceOf(joint)];
            return by == 0 ? 0 : (int) (pullOf(joint) / (by * THOUSAND));
        }

        /** Looks for the joint of a tier that goes next; the tier falls if it stands not. */
        private void look(int tier) {
            worst[tier] = NONE;
            excess[tier] = NONE;
            if (!stands(tier, gone[tier])) {
                fallen = tier;
                return;
            }
            int firstJoint = tier * TIER_JOINTS;
            for (int i = 0; i < TIER_JOINTS; i++) {
                int joint = firstJoint + i;
                long by = divisor[i / 2];
                if ((gone[tier] >>> i & 1) != 0 || by == 0) {
                    continue;
                }
                long held = (long) THOUSAND * (state.dead[tier] + holds[joint]);
                long over = pullOf(joint) - held * by;
                if (over > 0 && over / by > excess[tier]) {
                    worst[tier] = joint;
                    excess[tier] = over / by;
                }
            }
        }

        /** Lets joints go one behind the other, till none goes or it falls. */
        void breakUp(int wind, int current) {
            blow(wind, current);
            lost = 0;
            fallen = NONE;
            for (int tier = 0; tier < TIERS; tier++) {
                gone[tier] = 0;
                look(tier);
            }
            while (fallen == NONE && lost < JOINTS) {
                int joint = worstOfAll();
                if (joint == NONE) {
                    return;
                }
                order[lost] = joint;
                lost++;
                int tier = joint / TIER_JOINTS;
                gone[tier] |= 1 << joint % TIER_JOINTS;
                look(tier);
            }
        }

        private int worstOfAll() {
            int joint = NONE;
            long most = NONE;
            for (int tier = 0; tier < TIERS; tier++) {
                if (excess[tier] > most) {
                    most = excess[tier];
                    joint = worst[tier];
                }
            }
            return joint;
        }

        /**
         * Of the winds and currents whose bits are set those by which a tier falls. No tier's loads hang on what
         * goes in another one: the tower falls if one of them does so by itself.
         */
        int fallsOf(int tier, int asked) {
            int bits = 0;
            for (int i = 0; i < 2 * state.winds.size; i++) {
                if ((asked >>> i & 1) == 0) {
                    continue;
                }
                blow(i / 2, i % 2);
                fallen = NONE;
                gone[tier] = 0;
                look(tier);
                for (int n = 0; n < TIER_JOINTS && worst[tier] != NONE; n++) {
                    gone[tier] |= 1 << worst[tier] % TIER_JOINTS;
                    look(tier);
                }
                bits |= fallen == NONE ? 0 : 1 << i;
            }
            return bits;
        }

        int fallsOfAll(int asked) {
            for (int tier = 0; tier < TIERS; tier++) {
                tierFalls[tier] = fallsOf(tier, asked);
            }
            return allFalls();
        }

        /** As fallsOfAll() did, with one tier solved anew. */
        int fallsAnew(int tier, int asked) {
            tierFalls[tier] = fallsOf(tier, asked);
            return allFalls();
        }

        private int allFalls() {
            int bits = 0;
            for (int tier = 0; tier < TIERS; tier++) {
                bits |= tierFalls[tier];
            }
            return bits;
        }

        /** Of the winds and currents whose bits are set those by which a joint of a tier goes at all. */
        int stirsOf(int tier, int asked) {
            int bits = 0;
            gone[tier] = 0;
            for (int i = 0; i < 2 * state.winds.size; i++) {
                if ((asked >>> i & 1) != 0) {
                    blow(i / 2, i % 2);
                    look(tier);
                    bits |= worst[tier] == NONE ? 0 : 1 << i;
                }
            }
            return bits;
        }

        boolean facesAreEnough(int joint) {
            boolean anyOnFace = false;
            boolean anyAcross = false;
            long onFace = 0;
            long across = 0;
            for (int wind = 0; wind < state.winds.size; wind++) {
                blow(wind, 1);
                long pull = stands(joint / TIER_JOINTS, 0) ? pullOf(joint) : 0;
                if (state.isOnFace(wind)) {
                    onFace = anyOnFace ? Math.max(onFace, pull) : pull;
                    anyOnFace = true;
                } else {
                    across = anyAcross ? Math.max(across, pull) : pull;
                    anyAcross = true;
                }
            }
            return !anyAcross || anyOnFace && across <= onFace;
        }

        boolean facesAreEnoughForAll() {
            for (int joint = 0; joint < JOINTS; joint++) {
                if (!facesAreEnough(joint)) {
                    return false;
                }
            }
            return true;
        }
    }

    /** The joints that are wished mended, and the best row of nights for them. */
    private static final class Mending {
        private static final int SETS_MOST = 1 << WISHES_MOST;

        final State state;
        final Bearing bearing;
        final int[] wished = new int[WISHES_MOST];
        int size = 0;
        final int[] latest = new int[WISHES_MOST];
        int nights = 0;
        final long[] risk = new long[SETS_MOST];
        private final int[] falls = new int[SETS_MOST];
        private final int[] tierFalls = new int[SETS_MOST];
        private final int[] year = new int[SETS_MOST];

        Mending(State state, Bearing bearing) {
            this.state = state;
            this.bearing = bearing;
        }

        boolean isWished(int joint) {
            for (int i = 0; i < size; i++) {
                if (wished[i] == joint) {
                    return true;
                }
            }
            return false;
        }

        boolean canBe() {
            for (int i = 0; i < size; i++) {
                if (state.bolted[wished[i]] == 0) {
                    return false;
                }
            }
            return size > 0;
        }

        private int sets() {
            return Math.min(1 << size, SETS_MOST);
        }

        /** ODDS of a year for each set of mended wishes. */
        void weighSets() {
            bearing.ready();
            Arrays.fill(falls, 0);
            for (int tier = 0; tier < TIERS; tier++) {
                addFallsOf(tier);
            }
            for (int set = 0; set < sets(); set++) {
                year[set] = state.yearOf(falls[set], state.terms[FAILS]);
            }
        }

        /** A tier is solved only for the sets that lie in it whole: what is mended elsewhere does not change it. */
        private void addFallsOf(int tier) {
            mend(0);
            // Mending only makes joints hold more, so what stirs nothing now never will.
            int asked = bearing.stirsOf(tier, state.currents());
            int here = wishesIn(tier);
            for (int set = 0; set < sets() && asked != 0; set++) {
                int part = set & here;
                if (part == set) {
                    mend(set);
                    tierFalls[set] = bearing.fallsOf(tier, asked);
                }
                falls[set] |= tierFalls[part];
            }
        }

        private int wishesIn(int tier) {
            int bits = 0;
            for (int i = 0; i < size; i++) {
                bits |= wished[i] / TIER_JOINTS == tier ? 1 << i : 0;
            }
            return bits;
        }

        private void mend(int set) {
            for (int i = 0; i < size; i++) {
                boolean mended = (set >>> i & 1) != 0;
                bearing.holds[wished[i]] = mended ? state.terms[WELD] : state.holdOf(wished[i]);
            }
        }

        /** The least risk from each set of mended wishes on, till all are. */
        void weighRows() {
            int all = sets() - 1;
            risk[all] = 0;
            for (int set = all - 1; set >= 0; set--) {
                risk[set] = year[set] + risk[set | 1 << nextWish(set)];
            }
        }

        /** The first wish of those not in the set behind which the risk is least. */
        private int nextWish(int set) {
            int next = NONE;
            for (int i = 0; i < size; i++) {
                boolean open = (set >>> i & 1) == 0;
                if (open && (next == NONE || risk[set | 1 << i] < risk[set | 1 << next])) {
                    next = i;
                }
            }
            return Math.max(next, 0);
        }

        void keepRow() {
            int set = 0;
            nights = size;
            for (int night = 0; night < nights; night++) {
                latest[night] = nextWish(set);
                set |= 1 << latest[night];
            }
        }

        /** The sum of what the sets of each size have at the least; the whole one has no night. */
        long leastSum() {
            long sum = 0;
            for (int mended = 0; mended < size; mended++) {
                int least = NONE;
                for (int set = 0; set < sets(); set++) {
                    if (Integer.bitCount(set) == mended && (least == NONE || year[set] < least)) {
                        least = year[set];
                    }
                }
                sum += least;
            }
            return sum;
        }
    }

    /** A text that was read: its clauses, and its sums and tests as rows of orders and what they are about. */
    private static final class Text {
        // Columns of a clause: its sum's code is from FROM to MIDDLE, its test's from MIDDLE to TO.
        static final int HEAD = 0;
        static final int FROM = 1;
        static final int MIDDLE = 2;
        static final int TO = 3;
        static final int COLUMNS = 4;
        // Orders beside the signs of sums, the comparisons, "and", "or".
        static final int NUMBER = 0;
        static final int VALUE = 1;
        static final int FLIP = 2;

        final int[] clauses;
        final int[] code;

        Text(int[] clauses, int[] code) {
            this.clauses = clauses;
            this.code = code;
        }
    }

    /** Reads a text from the tape; what can't go on is the token that it stopped at. */
    private static final class Reader {
        // Tokens: a byte by itself, or one of these, or a word's number behind NEED.
        private static final int ENDING = -1;
        private static final int NUMBER = -2;
        private static final int STRANGE = -3;
        static final int NEED = 256;
        static final int LOOK = NEED + 1;
        static final int EDGE = NEED + 2;
        static final int IF = NEED + 3;
        static final int OR = NEED + 4;
        static final int AND = NEED + 5;
        static final int NOT = NEED + 6;
        static final int FIRST_PART = NEED + 7;
        static final int FIRST_PLAIN = NEED + 17;
        static final int WORDS_END = NEED + 21;
        private static final int LETTERS = 6;
        // Each word takes LETTERS signs.
        private static final String WORDS =
            "need  look  edge  if    or    and   not   load  dead  tier  side  day   holds leg   floorsage   bracesweldedboltedmendedface  ";
        private static final int NUMBER_MOST = 100_000;
        private static final int CLAUSES_MOST = 12;
        private static final int LEAVES_MOST = 50;
        private static final int BRACKETS_MOST = 8;
        // 50 leaves, 49 signs between them, a "not" for each four bytes of the tape: each takes two.
        private static final int CODE_MOST = 2 * (LEAVES_MOST + LEAVES_MOST + TAPE_MOST / 4);

        int start = 0;
        private int[] tape = new int[0];
        private int length = 0;
        private int place = 0;
        private int token = ENDING;
        private int number = 0;
        private int leaves = 0;
        private final int[] clauses = new int[CLAUSES_MOST * Text.COLUMNS];
        private int clauseCount = 0;
        private final int[] code = new int[CODE_MOST];
        private int size = 0;

        /** The text that the first bytes of the tape are; null if they are none, start is its fault then. */
        Text read(int[] bytes, int count) {
            tape = bytes;
            length = Math.min(count, bytes.length);
            place = 0;
            leaves = 0;
            clauseCount = 0;
            size = 0;
            advance();
            for (int i = 0; i < CLAUSES_MOST; i++) {
                if (!readClause()) {
                    return null;
                }
                if (token == ENDING) {
                    return new Text(Arrays.copyOf(clauses, clauseCount * Text.COLUMNS), Arrays.copyOf(code, size));
                }
                if (token != ';') {
                    return null;
                }
                advance();
            }
            return null;
        }

        private void advance() {
            while (place < length && tape[place] == ' ') {
                place++;
            }
            start = place;
            if (place >= length) {
                token = ENDING;
            } else if (isLetter(tape[place])) {
                takeWord();
            } else if (isDigit(tape[place])) {
                takeNumber();
            } else {
                token = tape[place];
                place++;
            }
        }

        private static boolean isLetter(int sign) {
            return sign >= 'a' && sign <= 'z';
        }

        private static boolean isDigit(int sign) {
            return sign >= '0' && sign <= '9';
        }

        private void takeWord() {
            while (place < length && isLetter(tape[place])) {
                place++;
            }
            token = STRANGE;
            for (int word = NEED; word < WORDS_END && token == STRANGE; word++) {
                if (isWord(word - NEED)) {
                    token = word;
                }
            }
        }

        private boolean isWord(int word) {
            if (place - start > LETTERS) {
                return false;
            }
            for (int i = 0; i < LETTERS; i++) {
                int sign = start + i < place ? tape[start + i] : ' ';
                if (sign != WORDS.charAt(word * LETTERS + i)) {
                    return false;
                }
            }
            return true;
        }

        private void takeNumber() {
            number = 0;
            while (place < length && isDigit(tape[place])) {
                // Held just above the most, so that a long row of digits does not wrap around.
                number = Math.min(number * 10 + tape[place] - '0', NUMBER_MOST + 1);
                place++;
            }
            token = number > NUMBER_MOST ? STRANGE : NUMBER;
        }

        private void write(int order, int about) {
            if (size + 1 < CODE_MOST) {
                code[size] = order;
                code[size + 1] = about;
                size += 2;
            }
        }

        private boolean readClause() {
            int head = token;
            int from = size;
            if (head != NEED && head != LOOK && head != EDGE) {
                return false;
            }
            advance();
            if (head != EDGE && !readSum(0)) {
                return false;
            }
            int middle = size;
            if (token == IF) {
                advance();
                if (!readTest(0)) {
                    return false;
                }
            }
            noteClause(head, from, middle);
            return true;
        }

        private void noteClause(int head, int from, int middle) {
            int at = clauseCount * Text.COLUMNS;
            if (at + Text.COLUMNS <= clauses.length) {
                clauses[at + Text.HEAD] = head;
                clauses[at + Text.FROM] = from;
                clauses[at + Text.MIDDLE] = middle;
                clauses[at + Text.TO] = size;
                clauseCount++;
            }
        }

        private boolean readTest(int depth) {
            boolean good = readBoth(depth);
            for (int i = 0; i < TAPE_MOST && good && token == OR; i++) {
                int jump = size;
                write(OR, 0);
                advance();
                good = readBoth(depth);
                land(jump);
            }
            return good;
        }

        private boolean readBoth(int depth) {
            boolean good = readPlain(depth);
            for (int i = 0; i < TAPE_MOST && good && token == AND; i++) {
                int jump = size;
                write(AND, 0);
                advance();
                good = readPlain(depth);
                land(jump);
            }
            return good;
        }

        /** What an "and", an "or" goes on with, if what stands behind it does not matter. */
        private void land(int jump) {
            if (jump + 1 < CODE_MOST) {
                code[jump + 1] = size;
            }
        }

        private boolean readPlain(int depth) {
            boolean flipped = false;
            for (int i = 0; i < TAPE_MOST && token == NOT; i++) {
                flipped = !flipped;
                advance();
            }
            boolean good;
            if (token == '(') {
                good = readBracketed(depth, ')');
            } else if (token >= FIRST_PLAIN && token < WORDS_END) {
                good = readLeaf();
            } else {
                good = readComparison(depth);
            }
            if (flipped) {
                write(Text.FLIP, 0);
            }
            return good;
        }

        private boolean readComparison(int depth) {
            if (!readSum(depth)) {
                return false;
            }
            int sign = token;
            if (sign != '<' && sign != '>' && sign != '=') {
                return false;
            }
            advance();
            boolean good = readSum(depth);
            write(sign, 0);
            return good;
        }

        private boolean readSum(int depth) {
            boolean good = readTerm(depth);
            for (int i = 0; i < TAPE_MOST && good && (token == '+' || token == '-'); i++) {
                int sign = token;
                advance();
                good = readTerm(depth);
                write(sign, 0);
            }
            return good;
        }

        private boolean readTerm(int depth) {
            boolean good = readPart(depth);
            for (int i = 0; i < TAPE_MOST && good && (token == '*' || token == '/'); i++) {
                int sign = token;
                advance();
                good = readPart(depth);
                write(sign, 0);
            }
            return good;
        }

        private boolean readPart(int depth) {
            if (token == '[') {
                return readBracketed(depth, ']');
            }
            boolean isLeaf = token == NUMBER || token >= FIRST_PART && token < FIRST_PLAIN;
            return isLeaf && readLeaf();
        }

        private boolean readBracketed(int depth, int closing) {
            if (depth >= BRACKETS_MOST) {
                return false;
            }
            advance();
            boolean good = closing == ')' ? readTest(depth + 1) : readSum(depth + 1);
            if (!good || token != closing) {
                return false;
            }
            advance();
            return true;
        }

        private boolean readLeaf() {
            if (leaves >= LEAVES_MOST) {
                return false;
            }
            leaves++;
            if (token == NUMBER) {
                write(Text.NUMBER, number);
            } else {
                write(Text.VALUE, token);
            }
            advance();
            return true;
        }
    }

    /** Asks a text's clauses of a joint and a wind, or of another tower. */
    private static final class Asker {
        private static final int LOAD = 0;
        private static final int DEAD = 1;
        private static final int TIER = 2;
        private static final int SIDE = 3;
        private static final int DAY = 4;
        private static final int HOLDS = 5;
        private static final int LEG_AT = 6;
        private static final int FLOORS = 7;
        private static final int AGE = 8;
        private static final int BRACES = 9;
        private static final int WELDED = 10;
        private static final int BOLTED = 11;
        private static final int MENDED = 12;
        private static final int FACE = 13;
        private static final int VALUES = 14;
        private static final int STACK_MOST = 64;
        private static final long VALUE_MOST = 1_000_000_000L;

        long told = 0;
        // In the order of the reader's words, a plain one's is 1 if it is so.
        private final int[] values = new int[VALUES];
        private final long[] stack = new long[STACK_MOST];
        private int height = 0;

        void faceJoint(State state, int joint, int day) {
            Arrays.fill(values, 0);
            values[DEAD] = state.dead[joint / TIER_JOINTS];
            values[TIER] = joint / TIER_JOINTS;
            values[SIDE] = Bearing.faceOf(joint);
            values[DAY] = day;
            values[HOLDS] = state.holdOf(joint);
            values[LEG_AT] = state.terms[LEG];
            values[WELDED] = 1 - state.bolted[joint];
            values[BOLTED] = state.bolted[joint];
            values[MENDED] = state.bolted[joint] == 1 && state.quarters[joint] > 0 ? 1 : 0;
        }

        void faceWind(int load, boolean onFace) {
            values[LOAD] = load;
            values[FACE] = onFace ? 1 : 0;
        }

        void faceTower(State state, int tower) {
            Arrays.fill(values, 0);
            values[FLOORS] = state.towers.cell(tower, TOWER_FLOORS);
            values[AGE] = state.towers.cell(tower, TOWER_AGE);
            values[BRACES] = state.towers.cell(tower, TOWER_BRACES);
            values[LEG_AT] = state.towers.cell(tower, TOWER_LEG);
            values[BOLTED] = state.towers.cell(tower, TOWER_BOLTED);
        }

        /** Whether a clause with such a head holds; what the last of them tells is told then. */
        boolean tells(Text text, int head) {
            int columns = Text.COLUMNS;
            for (int at = text.clauses.length - columns; at >= 0; at -= columns) {
                if (text.clauses[at + Text.HEAD] == head && isHolding(text, at)) {
                    return true;
                }
            }
            return false;
        }

        private boolean isHolding(Text text, int clause) {
            int from = text.clauses[clause + Text.FROM];
            int middle = text.clauses[clause + Text.MIDDLE];
            int to = text.clauses[clause + Text.TO];
            boolean isSo = middle == to || works(text.code, middle, to) && stack[0] != 0;
            if (!isSo || !works(text.code, from, middle)) {
                return false;
            }
            told = from == middle ? 0 : stack[0];
            return true;
        }

        /** Does the orders of a sum or a test, which leave their answer on the stack; false if it is broken. */
        private boolean works(int[] code, int from, int to) {
            height = 0;
            int last = Math.min(to, code.length);
            for (int at = Math.max(from, 0); at + 1 < last; at += 2) {
                int order = code[at];
                int about = code[at + 1];
                if (order == Text.NUMBER) {
                    push(about);
                } else if (order == Text.VALUE) {
                    push(valueOf(about));
                } else if (order == Text.FLIP) {
                    push(1 - pop());
                } else if (order == Reader.AND || order == Reader.OR) {
                    long isSo = pop();
                    if (isSo == (order == Reader.OR ? 1 : 0)) {
                        push(isSo);
                        at = Math.max(at, about - 2);
                    }
                } else if (!joins(order)) {
                    return false;
                }
            }
            return true;
        }

        private int valueOf(int word) {
            int i = word - Reader.FIRST_PART;
            return i >= 0 && i < VALUES ? values[i] : 0;
        }

        private void push(long value) {
            if (height < STACK_MOST) {
                stack[height] = value;
                height++;
            }
        }

        private long pop() {
            if (height == 0) {
                return 0;
            }
            height--;
            return stack[height];
        }

        /** Puts what two values make in their place; false if that is broken. */
        private boolean joins(int sign) {
            long right = pop();
            long left = pop();
            if (sign == '/' && right == 0) {
                return false;
            }
            long made;
            switch (sign) {
                case '+': made = left + right; break;
                case '-': made = left - right; break;
                case '*': made = left * right; break;
                case '/': made = right == 0 ? 0 : left / right; break;
                case '<': made = left < right ? 1 : 0; break;
                case '>': made = left > right ? 1 : 0; break;
                default: made = left == right ? 1 : 0; break;
            }
            push(made);
            return made <= VALUE_MOST && made >= -VALUE_MOST;
        }
    }
}
