import java.util.NoSuchElementException;

/**
 * The first over the sill: what a street of houses is worth to its first-footers, as planned, in
 * a night with cats, and at best. The document with its numbered promises says what each call answers.
 */
public final class FirstSill {
    public static final int NONE = -1;

    private static final int ITSELF = -2;
    private static final int SPOILT = -3;
    /** Where a call tells "there is none" apart from "no such ones". */
    private static final int NOTHING = -2;
    private static final int NO_SUCH_TALE = -3;
    private static final int NO_NIGHT = -4;

    private static final int MOST_BYTES = 600;
    private static final int MOST_HOUSES = 6;
    private static final int MOST_DARKS = 3;
    private static final int MOST_PLACE = 99;
    private static final int MOST_WORTH = 99;
    private static final int MOST_COAL = 9;
    private static final int MOST_SEED = 99999;
    private static final int MOST_NUMBER = 9999;
    private static final int MOST_KNOTS = 64;
    private static final int MOST_OPEN = 8;
    private static final int MOST_LETTERS = 6;
    private static final int MOST_GLASSES = 9;
    private static final int MOST_STAY = 60;
    private static final int MOST_CAT = 1000;
    private static final int MOST_TRACKS = 24;
    private static final int MOST_UNDO = 20;
    private static final int LAST_MINUTE = 240;
    private static final int ROW_LENGTH = 9;
    private static final int MOST_PLACES = MOST_DARKS * ROW_LENGTH;
    private static final int NIGHTS_OF_CHANCE = 10;
    private static final int STAY_WITHOUT_LAW = 2;
    private static final long MOST_VALUE = 1000000000000L;

    /** Behind every minute on which one could come. */
    private static final int NEVER = 1000;

    /** All sets of HOUSES, and all rows of six HOUSES without one twice. */
    private static final int SETS = 1 << MOST_HOUSES;
    private static final int MOST_ROWS = 1957;

    private static final int UNFIT = 1;
    private static final int TOO_MUCH = 2;
    private static final int TOLD_ALREADY = 3;

    private static final int WALK_LAW = 0;
    private static final int STAY_LAW = 1;
    private static final int MAY_LAW = 2;
    private static final int CAT_LAW = 3;
    private static final int LAWS = 4;

    private static final int ALL_REFUSED = 0;
    private static final int COAL_STAYS = 1;
    private static final int NOTHING_FAR = 2;
    private static final int HOUSE_GONE = 3;
    private static final int DARK_GONE = 4;
    private static final int ALL_MAY = 5;

    /** How closely the signs of E bind: the greater, the closer. */
    private static final int NO_LEVEL = 0;
    private static final int OR_LEVEL = 1;
    private static final int AND_LEVEL = 2;
    private static final int RELATION_LEVEL = 3;
    private static final int SUM_LEVEL = 4;
    private static final int PRODUCT_LEVEL = 5;
    private static final int VALUE_LEVEL = 6;

    private static final Token[] TOKENS = Token.values();

    private final Script script = new Script();
    private final Script newScript = new Script();
    private final Reader reader = new Reader(newScript);
    private final Plan plan = new Plan();
    private final Plan otherPlan = new Plan();
    private final Course course = new Course(script, plan);
    private final Night latestNight = new Night();
    private final Night drawnNight = new Night();
    private final Book book = new Book(script, course);
    private final Tracks tracks = new Tracks();
    private final Past past = new Past();
    private final Plan imagePlan = new Plan();
    private final Night imageNight = new Night();
    private boolean imageKept = false;
    private int exchangeGain = 0;
    private int exchangeFirst = NONE;
    private int exchangeSecond = NONE;

    public FirstSill() {
    }

    // ---- the TEXT

    public int feed(int a, int b, int c, int d, int e) {
        if (reader.length + 20 > MOST_BYTES) {
            return NONE;
        }
        reader.put(a);
        reader.put(b);
        reader.put(c);
        reader.put(d);
        reader.put(e);
        return reader.length;
    }

    public int text(int n) {
        if (n < 0 || n > reader.length) {
            return NOTHING;
        }
        int lines = reader.read(n);
        if (lines == NONE) {
            return NONE;
        }
        script.copyFrom(newScript);
        plan.clear();
        latestNight.clear(script.seed);
        tracks.clear();
        past.clear();
        imageKept = false;
        book.ready = false;
        return lines;
    }

    public int fault(int what) {
        if (what == 0) {
            return reader.fault;
        }
        return what == 1 ? reader.faultPlace : NONE;
    }

    public int named(int what, int letters) {
        if (what == 0) {
            return indexOf(script.houseNames, script.houses, letters);
        }
        return what == 1 ? indexOf(script.darkNames, script.darks, letters) : NONE;
    }

    public int look(int house, int what) throws IndexOutOfBoundsException, NoSuchElementException {
        if (!script.hasHouse(house)) {
            throw new IndexOutOfBoundsException("no such house");
        }
        switch (what) {
            case 0: return script.places[house];
            case 1: return script.worths[house];
            case 2: return script.bys[house];
            case 3: return bit(script.own, house);
            case 4: return bit(plan.refused, house);
            case 5: return bit(plan.out, house);
            default: throw new NoSuchElementException("no such what");
        }
    }

    public int dark(int dark, int what) {
        if (!script.hasDark(dark) || what < 0) {
            return NONE;
        }
        switch (what) {
            case 0: return script.darkPlaces[dark];
            case 1: return script.coals[dark];
            case 2: return plan.lengths[dark];
            default: return what - 3 < plan.lengths[dark] ? plan.rows[dark][what - 3] : NONE;
        }
    }

    // ---- the laws

    public int walk(int dark, int from, int to, int minute, int glass) {
        boolean start = from == NONE || script.hasHouse(from);
        if (!script.hasDark(dark) || !start || !script.hasHouse(to) || !isMinute(minute) || !isGlasses(glass)) {
            return NONE;
        }
        int here = from == NONE ? script.darkPlaces[dark] : script.places[from];
        int there = script.places[to];
        return script.laws.walkTime(there - here, minute, glass, script.coals[dark], script.worths[to]);
    }

    public int stays(int dark, int house, int minute, int glass, int what) {
        if (!script.hasDark(dark) || !script.hasHouse(house) || !isMinute(minute) || !isGlasses(glass)) {
            return NONE;
        }
        int coal = script.coals[dark];
        int worth = script.worths[house];
        if (what == 0) {
            return script.laws.stayTime(minute, glass, coal, worth);
        }
        if (what == 1) {
            return script.laws.allows(minute, glass, coal, worth, 0) ? 1 : 0;
        }
        return NONE;
    }

    public int cat(int house, int minute) {
        if (!script.hasHouse(house) || !isMinute(minute)) {
            return NONE;
        }
        return script.laws.catChance(minute, script.worths[house]);
    }

    // ---- the plan

    public int send(int dark, int house) {
        if (!script.hasDark(dark) || !script.hasHouse(house) || plan.lengths[dark] >= ROW_LENGTH) {
            return NONE;
        }
        past.remember(plan);
        plan.rows[dark][plan.lengths[dark]] = house;
        plan.lengths[dark]++;
        return plan.lengths[dark];
    }

    public int drop(int dark) {
        if (!script.hasDark(dark) || plan.lengths[dark] == 0) {
            return NONE;
        }
        past.remember(plan);
        plan.lengths[dark]--;
        return plan.rows[dark][plan.lengths[dark]];
    }

    public boolean glass(int house, boolean refused) {
        if (!script.hasHouse(house) || (bit(plan.refused, house) == 1) == refused) {
            return false;
        }
        past.remember(plan);
        plan.refused ^= 1 << house;
        book.ready = false;
        return true;
    }

    public boolean out(int house, boolean is) {
        if (!script.hasHouse(house) || bit(script.own, house) == 0 || (bit(plan.out, house) == 1) == is) {
            return false;
        }
        past.remember(plan);
        plan.out ^= 1 << house;
        book.ready = false;
        return true;
    }

    // ---- as planned

    public int done(int house, int what) {
        if (!script.hasHouse(house) || what < 0 || what > 1) {
            return NONE;
        }
        course.run(plan, NONE);
        return what == 0 ? course.doneBy[house] : course.doneOn[house];
    }

    public int where(int dark, int minute) {
        if (!script.hasDark(dark) || !isMinute(minute)) {
            return NONE;
        }
        course.run(plan, NONE);
        int latest = NOTHING;
        for (int i = 0; i < course.goers[dark].next; i++) {
            if (course.came[dark][i] <= minute) {
                latest = i;
            }
        }
        return latest;
    }

    public int gain() {
        course.run(plan, NONE);
        return course.gained(plan.refused);
    }

    public int after(int dark, int what) {
        if (!script.hasDark(dark)) {
            return NONE;
        }
        course.run(plan, NONE);
        Goer goer = course.goers[dark];
        switch (what) {
            case 0: return goer.leaves;
            case 1: return goer.glasses;
            case 2: return goer.coal;
            case 3: return goer.did;
            case 4: return goer.place;
            default: return NONE;
        }
    }

    public int which(int what) {
        if (what < 0 || what > 2) {
            return NONE;
        }
        course.run(plan, NONE);
        if (what == 2) {
            return course.inVain;
        }
        int houses = 0;
        for (int house = 0; house < script.houses; house++) {
            boolean behind = course.isDone(house) && course.doneOn[house] > script.bys[house];
            if (what == 0 ? behind : !course.isDone(house)) {
                houses |= 1 << house;
            }
        }
        return houses;
    }

    // ---- nights

    public int night() {
        course.begin(plan, NONE);
        latestNight.pass(course);
        return course.gained(plan.refused);
    }

    public int was(int house, int what) {
        if (!script.hasHouse(house) || what < 0 || what > 1) {
            return NONE;
        }
        if (latestNight.nights == 0) {
            return NO_NIGHT;
        }
        return what == 0 ? latestNight.doneBy[house] : latestNight.doneOn[house];
    }

    public int chance(int seed, int house) {
        if (seed < 0 || !script.hasHouse(house)) {
            return NONE;
        }
        drawnNight.clear(seed);
        int times = 0;
        for (int i = 0; i < NIGHTS_OF_CHANCE; i++) {
            course.begin(plan, NONE);
            drawnNight.pass(course);
            if (course.isInTime(house)) {
                times++;
            }
        }
        return times;
    }

    // ---- the best rows

    public int best(int n) {
        if (n < 0 || n > script.darks) {
            return NONE;
        }
        book.write(plan);
        return book.bestGain(n);
    }

    public int chosen(int n, int dark, int k) {
        if (n < 0 || n > script.darks || dark < 0 || dark >= n || k < 0) {
            return NONE;
        }
        book.write(plan);
        book.chooseBest(n);
        return book.houseOf(book.picks[dark], k);
    }

    public int many() {
        book.write(plan);
        int whole = book.wholeWorth();
        for (int n = 0; n <= script.darks; n++) {
            if (book.bestGain(n) == whole) {
                return n;
            }
        }
        return NOTHING;
    }

    public int price(int house) {
        if (!script.hasHouse(house)) {
            return NONE;
        }
        book.write(plan);
        return book.priceOf(house);
    }

    public int all(int houses) {
        if (houses < 0 || houses >= 1 << script.houses) {
            return NONE;
        }
        book.write(plan);
        return book.canDoAll(houses) ? 1 : 0;
    }

    // ---- other plans

    public int exchange(int what) {
        if (what < 0 || what > 4) {
            return NONE;
        }
        findExchange();
        if (exchangeFirst == NONE) {
            return NOTHING;
        }
        switch (what) {
            case 0: return exchangeGain;
            case 1: return exchangeFirst / ROW_LENGTH;
            case 2: return exchangeFirst % ROW_LENGTH;
            case 3: return exchangeSecond / ROW_LENGTH;
            default: return exchangeSecond % ROW_LENGTH;
        }
    }

    public int climb() {
        otherPlan.copyFrom(plan);
        int exchanges = 0;
        findExchange();
        // Each one brings more GAIN, so that there are never more of them than GAIN can be.
        for (; exchanges <= MOST_HOUSES * MOST_WORTH && exchangeFirst != NONE; exchanges++) {
            plan.swap(exchangeFirst, exchangeSecond);
            findExchange();
        }
        if (exchanges > 0) {
            past.remember(otherPlan);
        }
        return exchanges;
    }

    public int refusal(int what) {
        if (what < 0 || what > 1) {
            return NONE;
        }
        otherPlan.copyFrom(plan);
        int most = NONE;
        int houses = 0;
        for (int set = 0; set < 1 << script.houses; set++) {
            otherPlan.refused = set;
            course.run(otherPlan, NONE);
            int gain = course.gained(set);
            if (gain > most || gain == most && Integer.bitCount(set) < Integer.bitCount(houses)) {
                most = gain;
                houses = set;
            }
        }
        return what == 0 ? most : houses;
    }

    public int tried(int what, int i) {
        int choices = what == HOUSE_GONE ? script.houses : what == DARK_GONE ? script.darks : 1;
        if (what < ALL_REFUSED || what > ALL_MAY || i < 0 || i >= choices) {
            return NONE;
        }
        otherPlan.copyFrom(plan);
        if (what == ALL_REFUSED) {
            otherPlan.refused = SETS - 1;
        } else if (what == HOUSE_GONE) {
            otherPlan.removeHouse(i);
        } else if (what == DARK_GONE) {
            otherPlan.lengths[i] = 0;
        }
        course.run(otherPlan, what);
        return course.gained(what == ALL_REFUSED ? 0 : otherPlan.refused);
    }

    // ---- tracks

    public int track(int dark, int house, int minute) {
        if (!script.hasDark(dark) || !script.hasHouse(house) || !isMinute(minute)) {
            return NONE;
        }
        return tracks.add(dark, house, minute, NONE);
    }

    public int strike(int track) {
        if (track < 0 || track >= tracks.length) {
            return NONE;
        }
        return tracks.add(NONE, NONE, NONE, track);
    }

    public boolean known(int n) {
        if (n < NONE || n > tracks.length) {
            return false;
        }
        tracks.knownBy = n;
        return true;
    }

    public int tales(int dark) {
        if (!script.hasDark(dark)) {
            return NONE;
        }
        book.write(plan);
        int standing = tracks.standing();
        int found = 0;
        for (int row = 0; row < book.length; row++) {
            if (tracks.agree(standing, dark, book.minutes[dark][row])) {
                found++;
            }
        }
        return found;
    }

    public int tale(int dark, int k, int i) {
        if (!script.hasDark(dark) || k < 0 || i < 0) {
            return NONE;
        }
        book.write(plan);
        int standing = tracks.standing();
        int found = 0;
        for (int row = 0; row < book.length; row++) {
            if (tracks.agree(standing, dark, book.minutes[dark][row])) {
                if (found == k) {
                    return book.houseOf(row, i);
                }
                found++;
            }
        }
        return NO_SUCH_TALE;
    }

    // ---- what was and what is kept

    public int undo() {
        if (past.length == 0) {
            return NONE;
        }
        past.recall(plan);
        book.ready = false;
        return past.length;
    }

    public int keep() {
        imagePlan.copyFrom(plan);
        imageNight.copyFrom(latestNight);
        imageKept = true;
        return gain();
    }

    public int back() {
        if (!imageKept) {
            return NONE;
        }
        plan.copyFrom(imagePlan);
        latestNight.copyFrom(imageNight);
        past.clear();
        book.ready = false;
        return gain();
    }

    public int count(int what) {
        switch (what) {
            case 0: return script.houses;
            case 1: return script.darks;
            case 2: return script.laws.length;
            case 3: return script.houses - Integer.bitCount(which(1));
            case 4: return tracks.length;
            case 5: return tracks.knownLength();
            case 6: return past.length;
            case 7: return latestNight.nights;
            default: return NONE;
        }
    }

    private void findExchange() {
        course.run(plan, NONE);
        exchangeGain = course.gained(plan.refused);
        exchangeFirst = NONE;
        exchangeSecond = NONE;
        for (int first = 0; first < MOST_PLACES; first++) {
            for (int second = first + 1; second < MOST_PLACES; second++) {
                if (plan.areUnlike(first, second)) {
                    plan.swap(first, second);
                    course.run(plan, NONE);
                    plan.swap(first, second);
                    if (course.gained(plan.refused) > exchangeGain) {
                        exchangeGain = course.gained(plan.refused);
                        exchangeFirst = first;
                        exchangeSecond = second;
                    }
                }
            }
        }
    }

    private static boolean isMinute(int minute) {
        return minute >= 1 && minute <= LAST_MINUTE;
    }

    private static boolean isGlasses(int glasses) {
        return glasses >= 0 && glasses <= MOST_GLASSES;
    }

    private static int bit(int set, int i) {
        return set >> i & 1;
    }

    private static int indexOf(int[] names, int length, int letters) {
        for (int i = 0; i < length; i++) {
            if (names[i] == letters) {
                return i;
            }
        }
        return NONE;
    }

    /** What a TEXT is made of. A word of the language has its letters, 5 bits each; the others have 0. */
    private enum Token {
        HOUSE("house", NO_LEVEL), DARK("dark", NO_LEVEL), SEED("seed", NO_LEVEL), LAW("law", NO_LEVEL),
        BY("by", NO_LEVEL), OWN("own", NO_LEVEL),
        WALK("walk", NO_LEVEL), STAY("stay", NO_LEVEL), MAY("may", NO_LEVEL), CAT("cat", NO_LEVEL),
        FAR("far", VALUE_LEVEL), GLASS("glass", VALUE_LEVEL), MINUTE("minute", VALUE_LEVEL), UP("up", VALUE_LEVEL),
        LEFT("left", VALUE_LEVEL), WORTH("worth", VALUE_LEVEL), HOME("home", VALUE_LEVEL),
        NUMBER("", VALUE_LEVEL),
        OR("or", OR_LEVEL), AND("and", AND_LEVEL), NOT("not", NO_LEVEL),
        LESS("", RELATION_LEVEL), UP_TO("", RELATION_LEVEL), LIKE("", RELATION_LEVEL),
        UNLIKE("", RELATION_LEVEL), FROM("", RELATION_LEVEL), MORE("", RELATION_LEVEL),
        PLUS("", SUM_LEVEL), MINUS("", SUM_LEVEL), TIMES("", PRODUCT_LEVEL), PART("", PRODUCT_LEVEL),
        OPEN("", NO_LEVEL), CLOSE("", NO_LEVEL), STOP("", NO_LEVEL),
        NAME("", NO_LEVEL), END("", NO_LEVEL), BAD("", NO_LEVEL);

        private final int letters;
        private final int level;

        Token(String word, int level) {
            int coded = 0;
            for (int i = 0; i < word.length(); i++) {
                coded = withLetter(coded, i, word.charAt(i));
            }
            this.letters = coded;
            this.level = level;
        }

        private static int withLetter(int letters, int i, int letter) {
            return i < MOST_LETTERS ? letters | letter - 'a' + 1 << 5 * (MOST_LETTERS - 1 - i) : letters;
        }
    }

    /** Holds the TAPE and reads a TEXT from it, token by token, up to its first FAULT. */
    private static final class Reader {
        private final int[] tape = new int[MOST_BYTES];
        private int length = 0;
        private int fault = 0;
        private int faultPlace = NONE;
        private final Script script;
        private int end = 0;
        private int next = 0;
        private Token token = Token.END;
        private int place = 0;
        private int number = 0;
        private int letters = 0;
        private int knots = 0;

        private Reader(Script script) {
            this.script = script;
        }

        private void put(int fourBytes) {
            for (int shift = 24; shift >= 0 && length < MOST_BYTES; shift -= 8) {
                tape[length] = fourBytes >> shift & 255;
                length++;
            }
        }

        private int read(int n) {
            script.clear();
            end = Math.min(n, MOST_BYTES);
            next = 0;
            knots = 0;
            length = 0;
            fault = 0;
            faultPlace = NONE;
            advance();
            int lines = 0;
            for (; lines < end && token != Token.END; lines++) {
                boolean told = token == Token.HOUSE ? readHouse()
                    : token == Token.DARK ? readDark()
                    : token == Token.SEED ? readSeed()
                    : token == Token.LAW ? readLaw()
                    : stumble(UNFIT);
                if (!told || !take(Token.STOP)) {
                    return NONE;
                }
            }
            return lines;
        }

        private boolean readHouse() {
            int house = script.houses;
            if (house >= MOST_HOUSES) {
                return stumble(TOO_MUCH);
            }
            advance();
            if (!takeNewName(script.houseNames, house)) {
                return false;
            }
            script.places[house] = takeNumber(0, MOST_PLACE);
            if (fault != 0) {
                return false;
            }
            script.worths[house] = takeNumber(0, MOST_WORTH);
            if (fault != 0) {
                return false;
            }
            script.bys[house] = LAST_MINUTE;
            if (token == Token.BY) {
                advance();
                script.bys[house] = takeNumber(1, LAST_MINUTE);
            }
            if (fault == 0 && token == Token.OWN) {
                advance();
                script.own |= 1 << house;
            }
            script.houses++;
            return fault == 0;
        }

        private boolean readDark() {
            int dark = script.darks;
            if (dark >= MOST_DARKS) {
                return stumble(TOO_MUCH);
            }
            advance();
            if (!takeNewName(script.darkNames, dark)) {
                return false;
            }
            script.darkPlaces[dark] = takeNumber(0, MOST_PLACE);
            if (fault != 0) {
                return false;
            }
            script.coals[dark] = takeNumber(0, MOST_COAL);
            script.darks++;
            return fault == 0;
        }

        private boolean readSeed() {
            if (script.seedTold) {
                return stumble(TOLD_ALREADY);
            }
            advance();
            script.seed = takeNumber(0, MOST_SEED);
            script.seedTold = true;
            return fault == 0;
        }

        private boolean readLaw() {
            advance();
            int kind = lawKind();
            if (kind == NONE) {
                return stumble(UNFIT);
            }
            if (script.laws.isTold(kind)) {
                return stumble(TOLD_ALREADY);
            }
            advance();
            script.laws.begins[kind] = script.laws.length;
            boolean told = readExpression(OR_LEVEL, 0);
            script.laws.ends[kind] = script.laws.length;
            return told;
        }

        private int lawKind() {
            switch (token) {
                case WALK: return WALK_LAW;
                case STAY: return STAY_LAW;
                case MAY: return MAY_LAW;
                case CAT: return CAT_LAW;
                default: return NONE;
            }
        }

        /** Reads what is joined by the signs of a level or of a closer one; open '(' bound the depth. */
        private boolean readExpression(int level, int open) {
            if (level >= VALUE_LEVEL) {
                return readValue(open);
            }
            int nots = 0;
            if (level == RELATION_LEVEL) {
                for (; nots <= MOST_KNOTS && token == Token.NOT; nots++) {
                    if (!countKnot()) {
                        return false;
                    }
                    advance();
                }
            }
            if (!readExpression(level + 1, open)) {
                return false;
            }
            int most = level == RELATION_LEVEL ? 1 : MOST_KNOTS + 1;
            for (int i = 0; i < most && token.level == level; i++) {
                Token sign = token;
                if (!countKnot()) {
                    return false;
                }
                advance();
                if (!readExpression(level + 1, open)) {
                    return false;
                }
                script.laws.add(sign, 0);
            }
            for (int i = 0; i < nots; i++) {
                script.laws.add(Token.NOT, 0);
            }
            return true;
        }

        private boolean readValue(int open) {
            if (token == Token.OPEN) {
                if (open >= MOST_OPEN) {
                    return stumble(TOO_MUCH);
                }
                advance();
                return readExpression(OR_LEVEL, open + 1) && take(Token.CLOSE);
            }
            if (token.level != VALUE_LEVEL) {
                return stumble(UNFIT);
            }
            if (token == Token.NUMBER && number > MOST_NUMBER) {
                return stumble(TOO_MUCH);
            }
            if (!countKnot()) {
                return false;
            }
            script.laws.add(token, number);
            advance();
            return true;
        }

        private boolean stumble(int kind) {
            fault = kind;
            faultPlace = place;
            return false;
        }

        private boolean take(Token wanted) {
            if (token != wanted) {
                return stumble(UNFIT);
            }
            advance();
            return true;
        }

        private boolean countKnot() {
            if (knots >= MOST_KNOTS) {
                return stumble(TOO_MUCH);
            }
            knots++;
            return true;
        }

        private int takeNumber(int least, int most) {
            if (token != Token.NUMBER) {
                stumble(UNFIT);
                return 0;
            }
            if (number < least || number > most) {
                stumble(TOO_MUCH);
                return 0;
            }
            int taken = number;
            advance();
            return taken;
        }

        private boolean takeNewName(int[] names, int told) {
            if (token != Token.NAME) {
                return stumble(UNFIT);
            }
            if (indexOf(names, told, letters) != NONE) {
                return stumble(TOLD_ALREADY);
            }
            names[told] = letters;
            advance();
            return true;
        }

        private void advance() {
            for (; next < end && (tape[next] == ' ' || tape[next] == '\n'); next++) {
            }
            place = next;
            if (next >= end) {
                token = Token.END;
            } else if (tape[next] >= 'a' && tape[next] <= 'z') {
                readWord();
            } else if (tape[next] >= '0' && tape[next] <= '9') {
                readNumber();
            } else {
                readSign(tape[next], next + 1 < end ? tape[next + 1] : 0);
            }
        }

        private void readWord() {
            letters = 0;
            for (; next < end && tape[next] >= 'a' && tape[next] <= 'z'; next++) {
                letters = Token.withLetter(letters, next - place, tape[next]);
            }
            token = next - place > MOST_LETTERS ? Token.BAD : Token.NAME;
            for (int i = 0; i < TOKENS.length && token == Token.NAME; i++) {
                if (TOKENS[i].letters == letters) {
                    token = TOKENS[i];
                }
            }
        }

        private void readNumber() {
            token = Token.NUMBER;
            number = 0;
            for (; next < end && tape[next] >= '0' && tape[next] <= '9'; next++) {
                // Any number of digits may stand there: what is too much stays too much, and small enough for an int.
                number = Math.min(number * 10 + tape[next] - '0', MOST_SEED + 1);
            }
        }

        private void readSign(int sign, int behind) {
            int bytes = 1;
            switch (sign) {
                case '<':
                    bytes = behind == '=' || behind == '>' ? 2 : 1;
                    token = behind == '=' ? Token.UP_TO : behind == '>' ? Token.UNLIKE : Token.LESS;
                    break;
                case '>':
                    bytes = behind == '=' ? 2 : 1;
                    token = behind == '=' ? Token.FROM : Token.MORE;
                    break;
                case '=': token = Token.LIKE; break;
                case '+': token = Token.PLUS; break;
                case '-': token = Token.MINUS; break;
                case '*': token = Token.TIMES; break;
                case '/': token = Token.PART; break;
                case '(': token = Token.OPEN; break;
                case ')': token = Token.CLOSE; break;
                case ';': token = Token.STOP; break;
                default: token = Token.BAD; break;
            }
            next += bytes;
        }
    }

    /** What a TEXT tells. */
    private static final class Script {
        private final int[] houseNames = new int[MOST_HOUSES];
        private final int[] places = new int[MOST_HOUSES];
        private final int[] worths = new int[MOST_HOUSES];
        private final int[] bys = new int[MOST_HOUSES];
        private int own = 0;
        private int houses = 0;
        private final int[] darkNames = new int[MOST_DARKS];
        private final int[] darkPlaces = new int[MOST_DARKS];
        private final int[] coals = new int[MOST_DARKS];
        private int darks = 0;
        private int seed = 0;
        private boolean seedTold = false;
        private final Laws laws = new Laws();

        private void clear() {
            own = 0;
            houses = 0;
            darks = 0;
            seed = 0;
            seedTold = false;
            laws.clear();
        }

        private void copyFrom(Script other) {
            System.arraycopy(other.houseNames, 0, houseNames, 0, MOST_HOUSES);
            System.arraycopy(other.places, 0, places, 0, MOST_HOUSES);
            System.arraycopy(other.worths, 0, worths, 0, MOST_HOUSES);
            System.arraycopy(other.bys, 0, bys, 0, MOST_HOUSES);
            own = other.own;
            houses = other.houses;
            System.arraycopy(other.darkNames, 0, darkNames, 0, MOST_DARKS);
            System.arraycopy(other.darkPlaces, 0, darkPlaces, 0, MOST_DARKS);
            System.arraycopy(other.coals, 0, coals, 0, MOST_DARKS);
            darks = other.darks;
            seed = other.seed;
            seedTold = other.seedTold;
            laws.copyFrom(other.laws);
        }

        private boolean hasHouse(int house) {
            return house >= 0 && house < houses;
        }

        private boolean hasDark(int dark) {
            return dark >= 0 && dark < darks;
        }
    }

    /** The laws that are told, all behind one another in one list of knots: what is joined stands ahead of its sign. */
    private static final class Laws {
        private final Token[] knots = new Token[MOST_KNOTS];
        private final int[] numbers = new int[MOST_KNOTS];
        private int length = 0;
        private final int[] begins = new int[LAWS];
        private final int[] ends = new int[LAWS];
        private final long[] stack = new long[MOST_KNOTS];
        private long value = 0;
        private int far = 0;
        private int up = 0;
        private int minute = 0;
        private int glasses = 0;
        private int left = 0;
        private int worth = 0;
        private int home = 0;

        private void clear() {
            length = 0;
            for (int kind = 0; kind < LAWS; kind++) {
                begins[kind] = 0;
                ends[kind] = 0;
            }
        }

        private void copyFrom(Laws other) {
            length = other.length;
            for (int i = 0; i < length; i++) {
                knots[i] = other.knots[i];
                numbers[i] = other.numbers[i];
            }
            System.arraycopy(other.begins, 0, begins, 0, LAWS);
            System.arraycopy(other.ends, 0, ends, 0, LAWS);
        }

        private boolean isTold(int kind) {
            return ends[kind] > begins[kind];
        }

        private void add(Token knot, int number) {
            if (length < MOST_KNOTS) {
                knots[length] = knot;
                numbers[length] = number;
                length++;
            }
        }

        private int walkTime(int way, int leaves, int glasses, int coal, int worth) {
            putNames(leaves, glasses, coal, worth);
            far = Math.abs(way);
            up = way > 0 ? 1 : 0;
            return isWorkedOut(WALK_LAW) ? within(LAST_MINUTE) : far;
        }

        private int stayTime(int comes, int glasses, int coal, int worth) {
            putNames(comes, glasses, coal, worth);
            return isWorkedOut(STAY_LAW) ? within(MOST_STAY) : STAY_WITHOUT_LAW;
        }

        private boolean allows(int comes, int glasses, int coal, int worth, int isHome) {
            if (!isTold(MAY_LAW)) {
                return true;
            }
            putNames(comes, glasses, coal, worth);
            home = isHome;
            return isWorkedOut(MAY_LAW) && value > 0;
        }

        private int catChance(int minute, int worth) {
            putNames(minute, 0, 0, worth);
            return isWorkedOut(CAT_LAW) ? within(MOST_CAT) : 0;
        }

        private void putNames(int minute, int glasses, int left, int worth) {
            this.minute = minute;
            this.glasses = glasses;
            this.left = left;
            this.worth = worth;
            far = 0;
            up = 0;
            home = 0;
        }

        private int within(int most) {
            return (int) Math.max(0L, Math.min(value, (long) most));
        }

        /** Works a law out into value; false, if it isn't told or there is an ERROR. */
        private boolean isWorkedOut(int kind) {
            int height = 0;
            for (int i = begins[kind]; i < ends[kind]; i++) {
                Token knot = knots[i];
                if (knot.level == VALUE_LEVEL && height < MOST_KNOTS) {
                    stack[height] = valueOf(knot, numbers[i]);
                    height++;
                } else if (knot == Token.NOT && height > 0) {
                    stack[height - 1] = stack[height - 1] == 0 ? 1 : 0;
                } else if (height > 1 && isJoined(knot, stack[height - 2], stack[height - 1])) {
                    height--;
                    stack[height - 1] = value;
                } else {
                    return false;
                }
            }
            value = stack[0];
            return height == 1;
        }

        private int valueOf(Token knot, int number) {
            switch (knot) {
                case FAR: return far;
                case GLASS: return glasses;
                case MINUTE: return minute;
                case UP: return up;
                case LEFT: return left;
                case WORTH: return worth;
                case HOME: return home;
                default: return number;
            }
        }

        private boolean isJoined(Token sign, long a, long b) {
            switch (sign) {
                case OR: value = a != 0 || b != 0 ? 1 : 0; return true;
                case AND: value = a != 0 && b != 0 ? 1 : 0; return true;
                case LESS: value = a < b ? 1 : 0; return true;
                case UP_TO: value = a <= b ? 1 : 0; return true;
                case LIKE: value = a == b ? 1 : 0; return true;
                case UNLIKE: value = a != b ? 1 : 0; return true;
                case FROM: value = a >= b ? 1 : 0; return true;
                case MORE: value = a > b ? 1 : 0; return true;
                case PLUS: value = a + b; break;
                case MINUS: value = a - b; break;
                case TIMES:
                    // Asked ahead of the product, as that can be more than a long holds.
                    if (b != 0 && (a < 0 ? -a : a) > MOST_VALUE / (b < 0 ? -b : b)) {
                        return false;
                    }
                    value = a * b;
                    break;
                case PART:
                    if (b == 0) {
                        return false;
                    }
                    value = a / b;
                    break;
                default: return false;
            }
            return value <= MOST_VALUE && value >= -MOST_VALUE;
        }
    }

    /** What calls can change, and undo: the rows, whose GLASSES are REFUSED, who is OUT (bits of HOUSES). */
    private static final class Plan {
        private final int[][] rows = new int[MOST_DARKS][ROW_LENGTH];
        private final int[] lengths = new int[MOST_DARKS];
        private int refused = 0;
        private int out = 0;

        private void clear() {
            for (int dark = 0; dark < MOST_DARKS; dark++) {
                lengths[dark] = 0;
            }
            refused = 0;
            out = 0;
        }

        private void copyFrom(Plan other) {
            for (int dark = 0; dark < MOST_DARKS; dark++) {
                System.arraycopy(other.rows[dark], 0, rows[dark], 0, ROW_LENGTH);
                lengths[dark] = other.lengths[dark];
            }
            refused = other.refused;
            out = other.out;
        }

        private void removeHouse(int house) {
            for (int dark = 0; dark < MOST_DARKS; dark++) {
                int kept = 0;
                for (int i = 0; i < lengths[dark]; i++) {
                    if (rows[dark][i] != house) {
                        rows[dark][kept] = rows[dark][i];
                        kept++;
                    }
                }
                lengths[dark] = kept;
            }
            out &= ~(1 << house);
        }

        private boolean areUnlike(int first, int second) {
            int one = houseAt(first);
            int other = houseAt(second);
            return one != NONE && other != NONE && one != other;
        }

        /** A PLACE counts ROW_LENGTH for each DARK one ahead, so that PLACES are in their order. */
        private int houseAt(int place) {
            return houseOf(place / ROW_LENGTH, place % ROW_LENGTH);
        }

        private int houseOf(int dark, int i) {
            return i < lengths[dark] ? rows[dark][i] : NONE;
        }

        private void swap(int first, int second) {
            int house = rows[first / ROW_LENGTH][first % ROW_LENGTH];
            rows[first / ROW_LENGTH][first % ROW_LENGTH] = rows[second / ROW_LENGTH][second % ROW_LENGTH];
            rows[second / ROW_LENGTH][second % ROW_LENGTH] = house;
        }
    }

    /** The latest plans, the oldest of too many forgotten. */
    private static final class Past {
        private final Plan[] plans = new Plan[MOST_UNDO];
        private int oldest = 0;
        private int length = 0;

        private Past() {
            for (int i = 0; i < MOST_UNDO; i++) {
                plans[i] = new Plan();
            }
        }

        private void clear() {
            length = 0;
        }

        private void remember(Plan plan) {
            if (length == MOST_UNDO) {
                oldest = (oldest + 1) % MOST_UNDO;
                length--;
            }
            plans[(oldest + length) % MOST_UNDO].copyFrom(plan);
            length++;
        }

        private void recall(Plan plan) {
            if (length > 0) {
                length--;
                plan.copyFrom(plans[(oldest + length) % MOST_UNDO]);
            }
        }
    }

    /** A DARK one under way: where he is, when he leaves, what he has, the next of his row and when he comes there. */
    private static final class Goer {
        private int place = 0;
        private int leaves = 1;
        private int glasses = 0;
        private int coal = 0;
        private int did = 0;
        private int next = 0;
        private int comes = 0;

        private void begin(int place, int coal) {
            this.place = place;
            this.coal = coal;
            leaves = 1;
            glasses = 0;
            did = 0;
            next = 0;
            comes = 0;
        }

        private void copyFrom(Goer other) {
            place = other.place;
            leaves = other.leaves;
            glasses = other.glasses;
            coal = other.coal;
            did = other.did;
            next = other.next;
            comes = other.comes;
        }
    }

    /** How DARK ones go by a plan, perhaps with one thing TRIED otherwise, and what is DONE by that. */
    private static final class Course {
        private final Script script;
        private Plan plan;
        private int trial = NONE;
        private final Goer[] goers = new Goer[MOST_DARKS];
        private final int[][] came = new int[MOST_DARKS][ROW_LENGTH];
        private final int[] doneBy = new int[MOST_HOUSES];
        private final int[] doneOn = new int[MOST_HOUSES];
        private int inVain = 0;

        private Course(Script script, Plan plan) {
            this.script = script;
            this.plan = plan;
            for (int dark = 0; dark < MOST_DARKS; dark++) {
                goers[dark] = new Goer();
            }
        }

        private void run(Plan plan, int trial) {
            begin(plan, trial);
            comeUntil(LAST_MINUTE);
        }

        private void begin(Plan plan, int trial) {
            this.plan = plan;
            this.trial = trial;
            inVain = 0;
            for (int house = 0; house < script.houses; house++) {
                boolean alone = isDoneByItself(house);
                doneBy[house] = alone ? ITSELF : NONE;
                doneOn[house] = alone ? 1 : NONE;
            }
            for (int dark = 0; dark < script.darks; dark++) {
                goers[dark].begin(script.darkPlaces[dark], script.coals[dark]);
                setOut(goers[dark], plan.houseOf(dark, 0));
            }
        }

        private boolean isDoneByItself(int house) {
            return bit(plan.out, house) == 1
                && (trial == ALL_MAY || script.laws.allows(1, 0, 0, script.worths[house], 1));
        }

        private void setOut(Goer goer, int house) {
            if (house == NONE) {
                goer.comes = NEVER;
                return;
            }
            int way = trial == NOTHING_FAR ? 0 : script.places[house] - goer.place;
            int walk = script.laws.walkTime(way, goer.leaves, goer.glasses, goer.coal, script.worths[house]);
            goer.comes = goer.leaves + walk > LAST_MINUTE ? NEVER : goer.leaves + walk;
        }

        /** All who come up to a minute come, in their order. */
        private void comeUntil(int minute) {
            for (int visits = 0; visits <= MOST_PLACES; visits++) {
                int dark = firstToCome();
                if (dark == NONE || goers[dark].comes > minute) {
                    return;
                }
                Goer goer = goers[dark];
                int house = plan.rows[dark][goer.next];
                came[dark][goer.next] = goer.comes;
                if (doesIt(goer, house, doneBy[house] == NONE)) {
                    doneBy[house] = dark;
                    doneOn[house] = goer.comes;
                } else {
                    inVain |= 1 << house;
                }
                goer.next++;
                setOut(goer, plan.houseOf(dark, goer.next));
            }
        }

        private int firstToCome() {
            int first = NONE;
            int comes = NEVER;
            for (int dark = 0; dark < script.darks; dark++) {
                if (goers[dark].comes < comes) {
                    first = dark;
                    comes = goers[dark].comes;
                }
            }
            return first;
        }

        /** One comes to a HOUSE, which nobody has DONE nor SPOILT if it is open: whether he DOES it. */
        private boolean doesIt(Goer goer, int house, boolean open) {
            int comes = goer.comes;
            int worth = script.worths[house];
            Laws laws = script.laws;
            goer.place = script.places[house];
            goer.leaves = comes;
            if (!open || goer.coal == 0
                || trial != ALL_MAY && !laws.allows(comes, goer.glasses, goer.coal, worth, 0)) {
                return false;
            }
            if (bit(plan.refused, house) == 0) {
                goer.leaves = comes + laws.stayTime(comes, goer.glasses, goer.coal, worth);
                goer.glasses++;
            }
            if (trial != COAL_STAYS) {
                goer.coal--;
            }
            goer.did++;
            return true;
        }

        private boolean isDone(int house) {
            return doneBy[house] >= 0 || doneBy[house] == ITSELF;
        }

        private boolean isInTime(int house) {
            return isDone(house) && doneOn[house] <= script.bys[house];
        }

        /** The GAIN, if those of halved (bits) bring half of their WORTH to DARK ones. */
        private int gained(int halved) {
            int gain = 0;
            for (int house = 0; house < script.houses; house++) {
                if (isInTime(house)) {
                    boolean half = doneBy[house] >= 0 && bit(halved, house) == 1;
                    gain += half ? script.worths[house] / 2 : script.worths[house];
                }
            }
            return gain;
        }
    }

    /** The latest NIGHT, how many there were, and the numbers that the cats go by. */
    private static final class Night {
        private final int[] doneBy = new int[MOST_HOUSES];
        private final int[] doneOn = new int[MOST_HOUSES];
        private int nights = 0;
        private int number = 0;

        private void clear(int seed) {
            nights = 0;
            number = seed;
        }

        private void copyFrom(Night other) {
            System.arraycopy(other.doneBy, 0, doneBy, 0, MOST_HOUSES);
            System.arraycopy(other.doneOn, 0, doneOn, 0, MOST_HOUSES);
            nights = other.nights;
            number = other.number;
        }

        /** A NIGHT passes on a course that has just begun. */
        private void pass(Course course) {
            for (int minute = 1; minute <= LAST_MINUTE; minute++) {
                course.comeUntil(minute);
                letCats(course, minute);
            }
            System.arraycopy(course.doneBy, 0, doneBy, 0, MOST_HOUSES);
            System.arraycopy(course.doneOn, 0, doneOn, 0, MOST_HOUSES);
            nights++;
        }

        private void letCats(Course course, int minute) {
            Script script = course.script;
            for (int house = 0; house < script.houses; house++) {
                if (course.doneBy[house] == NONE) {
                    int cat = script.laws.catChance(minute, script.worths[house]);
                    if (cat > 0 && draw() % 1000 < cat) {
                        course.doneBy[house] = SPOILT;
                        course.doneOn[house] = minute;
                    }
                }
            }
        }

        private int draw() {
            number = (int) (number * 1103515245L + 12345L & 0x7fffffffL);
            return number / 65536;
        }
    }

    /**
     * All rows of HOUSES of which none stands twice, in the order of BEST, and what each DARK one
     * does by each of them. As BEST puts no HOUSE into two rows, none there is in another's way,
     * and it is enough to let each one go alone.
     */
    private static final class Book {
        private final int[] rows = new int[MOST_ROWS];
        private final int[] sets = new int[MOST_ROWS];
        private int length = 0;
        /** For each DARK one and row: the minutes on which he DID the HOUSES, 8 bits each. */
        private final long[][] minutes = new long[MOST_DARKS][MOST_ROWS];
        /** Likewise: the HOUSES that he DID at BY at the latest. */
        private final int[][] inTime = new int[MOST_DARKS][MOST_ROWS];
        private boolean ready = false;
        private final Script script;
        private final Course course;
        private int refused = 0;
        private int byItself = 0;
        private final Goer[] goers = new Goer[MOST_HOUSES + 1];
        private final int[] worthOfSet = new int[SETS];
        /** For each DARK one and set: the most by a row of just this set. */
        private final int[][] tops = new int[MOST_DARKS][SETS];
        /** For each DARK one and set: the most that he and all behind him bring by rows in this set. */
        private final int[][] mosts = new int[MOST_DARKS + 1][SETS];
        private final int[] picks = new int[MOST_DARKS];

        private Book(Script script, Course course) {
            this.script = script;
            this.course = course;
            for (int i = 0; i <= MOST_HOUSES; i++) {
                goers[i] = new Goer();
            }
        }

        private void write(Plan plan) {
            if (ready) {
                return;
            }
            refused = plan.refused;
            byItself = 0;
            length = 0;
            course.begin(plan, NONE);
            for (int house = 0; house < script.houses; house++) {
                if (course.doneBy[house] == ITSELF) {
                    byItself |= 1 << house;
                }
            }
            addRows(0, 0, 0);
            for (int dark = 0; dark < script.darks; dark++) {
                goers[0].begin(script.darkPlaces[dark], script.coals[dark]);
                goOn(dark, 0, 0, 0L);
            }
            ready = true;
        }

        /** Adds a row of so many HOUSES and all that go on from it: three bits a HOUSE, its number and 1. */
        private void addRows(int row, int size, int set) {
            if (length >= MOST_ROWS) {
                return;
            }
            rows[length] = row;
            sets[length] = set;
            length++;
            for (int house = 0; house < script.houses && size < MOST_HOUSES; house++) {
                if (bit(set, house) == 0) {
                    addRows(row | house + 1 << 3 * size, size + 1, set | 1 << house);
                }
            }
        }

        /** Tells of a row and of all that go on from it; answers which row is behind these. */
        private int goOn(int dark, int row, int size, long did) {
            if (row >= MOST_ROWS) {
                return row;
            }
            minutes[dark][row] = did;
            inTime[dark][row] = housesInTime(did);
            int next = row + 1;
            for (int house = 0; house < script.houses && size < MOST_HOUSES; house++) {
                if (bit(sets[row], house) == 0) {
                    goers[size + 1].copyFrom(goers[size]);
                    next = goOn(dark, next, size + 1, did | doesNext(goers[size + 1], house));
                }
            }
            return next;
        }

        private long doesNext(Goer goer, int house) {
            if (goer.comes != NEVER) {
                course.setOut(goer, house);
            }
            if (goer.comes != NEVER && course.doesIt(goer, house, bit(byItself, house) == 0)) {
                return (long) goer.comes << 8 * house;
            }
            return 0;
        }

        private int housesInTime(long did) {
            int houses = 0;
            for (int house = 0; house < script.houses; house++) {
                int minute = minuteOf(did, house);
                if (minute > 0 && minute <= script.bys[house]) {
                    houses |= 1 << house;
                }
            }
            return houses;
        }

        private static int minuteOf(long did, int house) {
            return (int) (did >> 8 * house) & 255;
        }

        private int houseOf(int row, int i) {
            int house = i < MOST_HOUSES ? (rows[row] >> 3 * i & 7) - 1 : NONE;
            return house == NONE ? NOTHING : house;
        }

        private int worthByDark(int house) {
            return bit(refused, house) == 1 ? script.worths[house] / 2 : script.worths[house];
        }

        private int gainByItself() {
            int gain = 0;
            for (int house = 0; house < script.houses; house++) {
                gain += bit(byItself, house) == 1 ? script.worths[house] : 0;
            }
            return gain;
        }

        private int wholeWorth() {
            int whole = gainByItself();
            for (int house = 0; house < script.houses; house++) {
                whole += bit(byItself, house) == 0 ? worthByDark(house) : 0;
            }
            return whole;
        }

        private int everyHouse() {
            return (1 << script.houses) - 1;
        }

        private int bestGain(int darks) {
            weighWorth();
            weighRows(darks);
            return gainByItself() + mosts[0][everyHouse()];
        }

        /** The first of the BEST rows goes into picks. */
        private void chooseBest(int darks) {
            weighWorth();
            weighRows(darks);
            int free = everyHouse();
            for (int dark = 0; dark < darks; dark++) {
                picks[dark] = firstBest(dark, free);
                free &= ~sets[picks[dark]];
            }
        }

        private int firstBest(int dark, int free) {
            for (int row = 0; row < length; row++) {
                int set = sets[row];
                if ((set & ~free) == 0
                    && worthOfSet[inTime[dark][row]] + mosts[dark + 1][free & ~set] == mosts[dark][free]) {
                    return row;
                }
            }
            return 0;
        }

        private int priceOf(int house) {
            chooseBest(script.darks);
            int others = mosts[0][everyHouse()];
            for (int dark = 0; dark < script.darks; dark++) {
                if (bit(inTime[dark][picks[dark]], house) == 1) {
                    others -= worthByDark(house);
                }
            }
            return mosts[0][everyHouse() & ~(1 << house)] - others;
        }

        private boolean canDoAll(int houses) {
            int wanted = houses & ~byItself;
            for (int set = 0; set < SETS; set++) {
                worthOfSet[set] = Integer.bitCount(set & wanted);
            }
            weighRows(script.darks);
            return mosts[0][everyHouse()] == Integer.bitCount(wanted);
        }

        private void weighWorth() {
            for (int set = 0; set < SETS; set++) {
                worthOfSet[set] = 0;
                for (int house = 0; house < script.houses; house++) {
                    worthOfSet[set] += bit(set, house) == 1 ? worthByDark(house) : 0;
                }
            }
        }

        private void weighRows(int darks) {
            for (int set = 0; set < SETS; set++) {
                mosts[darks][set] = 0;
            }
            for (int dark = darks - 1; dark >= 0; dark--) {
                weighRowsOf(dark);
                for (int free = 0; free <= everyHouse(); free++) {
                    mosts[dark][free] = mostWithin(dark, free);
                }
            }
        }

        private void weighRowsOf(int dark) {
            for (int set = 0; set < SETS; set++) {
                tops[dark][set] = 0;
            }
            for (int row = 0; row < length; row++) {
                tops[dark][sets[row]] = Math.max(tops[dark][sets[row]], worthOfSet[inTime[dark][row]]);
            }
        }

        private int mostWithin(int dark, int free) {
            int most = 0;
            for (int set = 0; set <= free; set++) {
                if ((set & ~free) == 0) {
                    most = Math.max(most, tops[dark][set] + mosts[dark + 1][free & ~set]);
                }
            }
            return most;
        }
    }

    /** TRACKS and STRIKES, in the order in which they came; a STRIKE has what it strikes. */
    private static final class Tracks {
        private final int[] darks = new int[MOST_TRACKS];
        private final int[] houses = new int[MOST_TRACKS];
        private final int[] minutes = new int[MOST_TRACKS];
        private final int[] struck = new int[MOST_TRACKS];
        private int length = 0;
        private int knownBy = NONE;

        private void clear() {
            length = 0;
            knownBy = NONE;
        }

        private int add(int dark, int house, int minute, int strikes) {
            if (length >= MOST_TRACKS) {
                return NONE;
            }
            darks[length] = dark;
            houses[length] = house;
            minutes[length] = minute;
            struck[length] = strikes;
            length++;
            return length - 1;
        }

        private int knownLength() {
            return knownBy == NONE ? length : knownBy;
        }

        /** The bits of those that are KNOWN. From the last one on, as only later ones strike one. */
        private int standing() {
            int standing = (1 << knownLength()) - 1;
            for (int i = knownLength() - 1; i >= 0; i--) {
                if (bit(standing, i) == 1 && struck[i] != NONE) {
                    standing &= ~(1 << struck[i]);
                }
            }
            return standing;
        }

        private boolean agree(int standing, int dark, long did) {
            for (int i = 0; i < length; i++) {
                if (bit(standing, i) == 1 && struck[i] == NONE && darks[i] == dark
                    && Book.minuteOf(did, houses[i]) != minutes[i]) {
                    return false;
                }
            }
            return true;
        }
    }
}
