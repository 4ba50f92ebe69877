import java.util.Arrays;

/** Bread that argues: towns, days and plates told as texts, and what can be asked of them. */
public final class BreadTalk {
    public static final int NONE = -1;

    private static final int NO_TEXT = -2;
    private static final int NO_NUMBER = -8;
    private static final int NO_VIEW = -9;
    private static final int NO_STATE = -1000;

    private static final int SORT_TOWN = 0;
    private static final int SORT_DAYS = 1;
    private static final int SORT_PLATE = 2;
    private static final int SORTS = 3;
    private static final int MOST_OF_SORT = 2;
    private static final int IMAGES = 3;

    private static final int TAPE = 600;
    private static final int TOPICS = 6;
    private static final int OVENS = 4;
    private static final int HOUSES = 8;
    private static final int SAIDS = 12;
    private static final int TOLD_LOAVES = 8;
    private static final int ALL_LOAVES = 16;
    private static final int DEEDS = 40;
    private static final int CRUMBS = 12;
    private static final int FEAST_LOAVES = 6;
    private static final int VIEWS = 7;
    private static final int GREATEST_VIEW = 3;

    private static final int RYE = 0;
    private static final int BUN = 1;
    private static final int CRUST = 2;
    private static final int TOAST = 3;
    private static final int WAFER = 4;
    private static final int KINDS = 5;

    private static final int SAY = 0;
    private static final int BAKE = 1;
    private static final int EAT = 2;
    private static final int BUTTER = 3;
    private static final int TALK = 4;
    private static final int NIGHT = 5;

    private final Told told;
    private final Told[] images;
    private final Reader reader;
    private final Scene scene;
    private final Meals meals;
    private final Market market;
    private final Guess guess;
    private int seed;

    public BreadTalk() {
        told = new Told();
        images = new Told[IMAGES];
        reader = new Reader();
        scene = new Scene();
        meals = new Meals(scene);
        market = new Market();
        guess = new Guess();
    }

    public int feed(int a, int b, int c, int d, int e) {
        if (told.length + 20 > TAPE) {
            return NONE;
        }
        told.putNumber(a);
        told.putNumber(b);
        told.putNumber(c);
        told.putNumber(d);
        told.putNumber(e);
        return told.length;
    }

    public int end(int n) {
        if (n < 0 || n > told.length) {
            return NONE;
        }
        told.length = n;
        return n;
    }

    public int text(int sort, int at) {
        // The tape is taken by every text(), also by one that reads nothing.
        int length = told.length;
        told.length = 0;
        told.fault = 0;
        told.place = NONE;
        if (sort < 0 || sort >= SORTS) {
            return NO_TEXT;
        }
        int there = told.counts[sort];
        int number = at == NONE ? there : at;
        int bound = at == NONE ? MOST_OF_SORT : there;
        if (number < 0 || number >= bound) {
            return NO_TEXT;
        }
        reader.read(told.tape, length, sort);
        if (reader.fault != 0) {
            told.fault = reader.fault;
            told.place = reader.place;
            return NONE;
        }
        keepDraft(sort, number);
        if (at == NONE) {
            told.counts[sort] = there + 1;
        }
        return number;
    }

    private void keepDraft(int sort, int number) {
        if (number < 0 || number >= MOST_OF_SORT) {
            return;
        }
        switch (sort) {
            case SORT_TOWN:
                told.towns[number].copyFrom(reader.town);
                break;
            case SORT_DAYS:
                told.days[number].copyFrom(reader.days);
                break;
            default:
                told.plates[number].copyFrom(reader.plate);
                break;
        }
    }

    public int fault(int what) {
        if (what == 0) {
            return told.fault;
        }
        return what == 1 ? told.place : NONE;
    }

    public int town(int town, int what) {
        Town it = townAt(town);
        if (it == null || what < 0) {
            return NONE;
        }
        int row = what / 10;
        int at = what % 10;
        if (row == 0) {
            return it.size(at);
        }
        if (row < 4) {
            return at < it.houses ? it.houseFact(row, at) : NONE;
        }
        if (row < 6) {
            return at < it.loaves ? (row == 4 ? it.kinds[at] : it.ovens[at]) : NONE;
        }
        return NONE;
    }

    public int mind(int town, int house, int topic) {
        Town it = townAt(town);
        if (it == null || !it.hasHouse(house) || !it.hasTopic(topic)) {
            return NO_VIEW;
        }
        return it.minds[house * TOPICS + topic];
    }

    public int said(int town, int k, int what) {
        Town it = townAt(town);
        if (it == null || k < 0 || k >= it.saids || what < 0 || what > 2) {
            return NO_VIEW;
        }
        return it.saidRows[k * 3 + what];
    }

    public int deed(int days, int k, int what) {
        Days it = daysAt(days);
        if (it == null || what < 0 || what > 3) {
            return NO_VIEW;
        }
        if (k == NONE) {
            return what == 0 ? it.deeds : NO_VIEW;
        }
        return k >= 0 && k < it.deeds ? it.rows[k * 4 + what] : NO_VIEW;
    }

    public int stop(int town, int days) {
        Town it = townAt(town);
        Days those = daysAt(days);
        if (it == null || those == null) {
            return NONE;
        }
        scene.begin(it);
        return scene.live(those, those.deeds);
    }

    public int state(int town, int days, int n, int what) {
        Town it = townAt(town);
        Days those = daysAt(days);
        if (it == null || those == null || n < 0 || n > those.deeds) {
            return NO_STATE;
        }
        scene.begin(it);
        return scene.live(those, n) == n ? scene.reply(what) : NO_STATE;
    }

    public int shares(int town, int topic, int what) {
        Town it = townAt(town);
        if (it == null || !it.hasTopic(topic) || what < 0 || what > 2) {
            return NO_STATE;
        }
        scene.begin(it);
        meals.share(topic);
        if (what == 0) {
            return meals.greatestTally();
        }
        int set = meals.fewestGiven();
        return what == 1 && set != NONE ? Integer.bitCount(set) : set;
    }

    public int feast(int town, int house, int loaves, int topic, int what) {
        Town it = townAt(town);
        if (it == null || !it.hasHouse(house) || !it.hasTopic(topic) || what < 0 || what > 2) {
            return NO_STATE;
        }
        if (loaves < 0 || loaves >= 1 << it.loaves || Integer.bitCount(loaves) > FEAST_LOAVES) {
            return NO_STATE;
        }
        scene.begin(it);
        meals.dine(house, loaves, topic);
        if (what == 0) {
            return meals.greatest;
        }
        return what == 1 ? meals.least : meals.orders;
    }

    public int agree(int town, int what) {
        Town it = townAt(town);
        if (it == null) {
            return NONE;
        }
        scene.begin(it);
        switch (what) {
            case 0:
                return scene.together();
            case 1:
                return scene.strike();
            case 2:
                return scene.clashes();
            default:
                return NONE;
        }
    }

    public int side(int town, int loaf, int topic) {
        Town it = townAt(town);
        if (it == null || loaf < 0 || loaf >= it.loaves || !it.hasTopic(topic)) {
            return NONE;
        }
        scene.begin(it);
        return scene.votesBeside(loaf, topic);
    }

    public int visits(int town, int topic, int what) {
        Town it = townAt(town);
        if (it == null || !it.hasTopic(topic)) {
            return NONE;
        }
        switch (what) {
            case 0:
                return Walk.tail(it, topic);
            case 1:
                return Walk.period(it, Walk.signs(it, topic), 0);
            case 2:
                return Walk.fewestHermits(it, topic);
            default:
                return NONE;
        }
    }

    public int sign(int town, int topic, int house, int n) {
        Town it = townAt(town);
        if (it == null || !it.hasTopic(topic) || !it.hasHouse(house) || n < 0 || n > 99) {
            return NO_VIEW;
        }
        int signs = Walk.signs(it, topic);
        for (int i = 0; i < n; i++) {
            signs = Walk.step(it, signs, 0);
        }
        return Walk.signOf(signs, house);
    }

    public int sales(int town, int topic, int one, int two, boolean other) {
        Town it = townAt(town);
        if (it == null || !it.hasTopic(topic) || !isView(one) || !isView(two)) {
            return NONE;
        }
        return other ? Market.buyers(it, topic, two, one) : Market.buyers(it, topic, one, two);
    }

    public int rest(int town, int topic, int k) {
        Town it = townAt(town);
        if (it == null || !it.hasTopic(topic) || k < NONE) {
            return NONE;
        }
        market.open(it, topic);
        return market.restAt(k);
    }

    public int plate(int plate, int k, int what) {
        Plate it = plateAt(plate);
        if (it == null || what < 0 || what > 2) {
            return NO_VIEW;
        }
        if (k == NONE) {
            return it.size(what);
        }
        return k >= 0 && k < it.crumbs ? it.rows[k * 3 + what] : NO_VIEW;
    }

    public long fits(int plate, int what) {
        Plate it = plateAt(plate);
        if (it == null || what < 0) {
            return NO_VIEW;
        }
        guess.weigh(it);
        int row = what / 10;
        int at = what % 10;
        if (row == 0) {
            return guess.whole(at);
        }
        if (row > 2 || at >= it.topics) {
            return NO_VIEW;
        }
        return row == 1 ? guess.leastView(at) : guess.mostView(at);
    }

    public long jury(int n, int k, int a, boolean under) {
        if (!Chance.canBe(n, a) || k < 0 || k > 13) {
            return NONE;
        }
        long whole = Chance.power(10, n);
        long part = Chance.atLeast(n, k, a);
        long common = Chance.commonDivisor(whole, part);
        if (common <= 0) {
            return NONE;
        }
        return under ? whole / common : part / common;
    }

    public int bound(int n, int a, int b) {
        if (!Chance.canBe(n, a) || !Chance.canBe(n, b)) {
            return NONE;
        }
        return Chance.bestBound(n, a, b);
    }

    public int drawn(int town, int seed, int n, int what) {
        Town it = townAt(town);
        if (it == null || n < 0 || n > 60) {
            return NO_STATE;
        }
        scene.begin(it);
        this.seed = seed;
        for (int i = 0; i < n; i++) {
            drawDeed(it);
        }
        return scene.reply(what);
    }

    private void drawDeed(Town it) {
        int sort = drawBelow(6);
        if (sort <= 1) {
            int oven = drawBelow(OVENS);
            int topic = drawBelow(it.topics);
            scene.goOn(SAY, oven, topic, drawBelow(VIEWS) - GREATEST_VIEW);
        } else if (sort == 2) {
            int kind = drawBelow(KINDS);
            scene.goOn(BAKE, kind, drawBelow(OVENS), NO_NUMBER);
        } else if (sort == 5) {
            scene.goOn(NIGHT, NO_NUMBER, NO_NUMBER, NO_NUMBER);
        } else if (it.houses > 0) {
            int house = drawBelow(it.houses);
            if (sort == 3) {
                scene.goOn(EAT, house, scene.firstFor(house), NO_NUMBER);
            } else {
                scene.goOn(TALK, house, drawBelow(OVENS), NO_NUMBER);
            }
        }
    }

    private int drawBelow(int n) {
        seed = seed * 1103515245 + 12345;
        return n > 0 ? (seed >>> 16) % n : 0;
    }

    public int apart(int town, int a, int b) {
        Town it = townAt(town);
        if (it == null || !it.hasHouse(a) || !it.hasHouse(b)) {
            return NONE;
        }
        return it.distance(a, b);
    }

    public int factions(int town, int n, int house) {
        Town it = townAt(town);
        if (it == null || n < 0 || n > 36) {
            return NONE;
        }
        if (house == NONE) {
            return it.factionCount(n);
        }
        return it.hasHouse(house) ? it.factionOf(n, house) : NONE;
    }

    public int pivots(int town, int topic) {
        Town it = townAt(town);
        if (it == null || !it.hasTopic(topic)) {
            return NONE;
        }
        return it.pivotBits(topic);
    }

    public int sway(int town, int house, int topic, boolean bits) {
        Town it = townAt(town);
        if (it == null || !it.hasHouse(house) || !it.hasTopic(topic)) {
            return NONE;
        }
        scene.begin(it);
        int set = meals.winOver(house, topic);
        return bits || set == NONE ? set : Integer.bitCount(set);
    }

    public int count(int sort) {
        return sort >= 0 && sort < SORTS ? told.counts[sort] : NO_TEXT;
    }

    public boolean image(int k) {
        if (k < 0 || k >= IMAGES) {
            return false;
        }
        Told image = images[k];
        if (image == null) {
            image = new Told();
            images[k] = image;
        }
        image.copyFrom(told);
        return true;
    }

    public boolean again(int k) {
        if (k < 0 || k >= IMAGES) {
            return false;
        }
        Told image = images[k];
        if (image == null) {
            return false;
        }
        told.copyFrom(image);
        return true;
    }

    private Town townAt(int number) {
        boolean there = number >= 0 && number < told.counts[SORT_TOWN] && number < MOST_OF_SORT;
        return there ? told.towns[number] : null;
    }

    private Days daysAt(int number) {
        boolean there = number >= 0 && number < told.counts[SORT_DAYS] && number < MOST_OF_SORT;
        return there ? told.days[number] : null;
    }

    private Plate plateAt(int number) {
        boolean there = number >= 0 && number < told.counts[SORT_PLATE] && number < MOST_OF_SORT;
        return there ? told.plates[number] : null;
    }

    private static boolean isView(int view) {
        return view >= -GREATEST_VIEW && view <= GREATEST_VIEW;
    }

    /** The view of a loaf of a kind that looks at the latest alone; rye and crust need more of their oven. */
    private static int viewOfKind(int kind, int latest) {
        switch (kind) {
            case BUN:
                return latest / 2;
            case TOAST:
                return GREATEST_VIEW * Integer.signum(latest);
            default:
                return latest;
        }
    }

    /** A town as told. */
    private static final class Town {
        int topics = 3;
        int life = 3;
        int houses;
        int saids;
        int loaves;
        final int[] votes = new int[HOUSES];
        final int[] stubborn = new int[HOUSES];
        final int[] visited = new int[HOUSES];
        final int[] minds = new int[HOUSES * TOPICS];
        final int[] saidRows = new int[SAIDS * 3];
        final int[] kinds = new int[TOLD_LOAVES];
        final int[] ovens = new int[TOLD_LOAVES];

        void clear() {
            topics = 3;
            life = 3;
            houses = 0;
            saids = 0;
            loaves = 0;
            Arrays.fill(visited, 0);
            Arrays.fill(minds, 0);
        }

        void copyFrom(Town other) {
            topics = other.topics;
            life = other.life;
            houses = other.houses;
            saids = other.saids;
            loaves = other.loaves;
            System.arraycopy(other.votes, 0, votes, 0, HOUSES);
            System.arraycopy(other.stubborn, 0, stubborn, 0, HOUSES);
            System.arraycopy(other.visited, 0, visited, 0, HOUSES);
            System.arraycopy(other.minds, 0, minds, 0, HOUSES * TOPICS);
            System.arraycopy(other.saidRows, 0, saidRows, 0, SAIDS * 3);
            System.arraycopy(other.kinds, 0, kinds, 0, TOLD_LOAVES);
            System.arraycopy(other.ovens, 0, ovens, 0, TOLD_LOAVES);
        }

        boolean hasHouse(int house) {
            return house >= 0 && house < houses;
        }

        boolean hasTopic(int topic) {
            return topic >= 0 && topic < topics;
        }

        int size(int what) {
            switch (what) {
                case 0:
                    return topics;
                case 1:
                    return life;
                case 2:
                    return houses;
                case 3:
                    return saids;
                case 4:
                    return loaves;
                default:
                    return NONE;
            }
        }

        int houseFact(int row, int house) {
            if (row == 1) {
                return votes[house];
            }
            return row == 2 ? stubborn[house] : visited[house];
        }

        int distance(int a, int b) {
            int all = 0;
            for (int t = 0; t < topics; t++) {
                all += Math.abs(minds[a * TOPICS + t] - minds[b * TOPICS + t]);
            }
            return all;
        }

        int factionOf(int n, int house) {
            int bits = 1 << house;
            for (int round = 1; round < houses; round++) {
                bits = widened(n, bits);
            }
            return bits;
        }

        private int widened(int n, int bits) {
            int wider = bits;
            for (int h = 0; h < houses; h++) {
                if ((bits >> h & 1) == 0 && isNear(n, bits, h)) {
                    wider |= 1 << h;
                }
            }
            return wider;
        }

        private boolean isNear(int n, int bits, int house) {
            for (int h = 0; h < houses; h++) {
                if ((bits >> h & 1) != 0 && distance(h, house) <= n) {
                    return true;
                }
            }
            return false;
        }

        int factionCount(int n) {
            int seen = 0;
            int factions = 0;
            for (int h = 0; h < houses; h++) {
                if ((seen >> h & 1) == 0) {
                    seen |= factionOf(n, h);
                    factions++;
                }
            }
            return factions;
        }

        int pivotBits(int topic) {
            int all = 0;
            for (int h = 0; h < houses; h++) {
                all += weight(h, topic);
            }
            int bits = 0;
            for (int h = 0; h < houses; h++) {
                if (Integer.signum(all - weight(h, topic)) != Integer.signum(all)) {
                    bits |= 1 << h;
                }
            }
            return bits;
        }

        private int weight(int house, int topic) {
            return votes[house] * Integer.signum(minds[house * TOPICS + topic]);
        }
    }

    /** Days as told: of each deed its sort and three numbers. */
    private static final class Days {
        int deeds;
        final int[] rows = new int[DEEDS * 4];

        void clear() {
            deeds = 0;
        }

        void copyFrom(Days other) {
            deeds = other.deeds;
            System.arraycopy(other.rows, 0, rows, 0, DEEDS * 4);
        }
    }

    /** A plate as told: of each crumb its kind, topic and view. */
    private static final class Plate {
        int topics = 3;
        int lies;
        int crumbs;
        final int[] rows = new int[CRUMBS * 3];

        void clear() {
            topics = 3;
            lies = 0;
            crumbs = 0;
        }

        void copyFrom(Plate other) {
            topics = other.topics;
            lies = other.lies;
            crumbs = other.crumbs;
            System.arraycopy(other.rows, 0, rows, 0, CRUMBS * 3);
        }

        int size(int what) {
            if (what == 0) {
                return topics;
            }
            return what == 1 ? lies : crumbs;
        }
    }

    /** All that is told; an image is another one of these. */
    private static final class Told {
        final Town[] towns = new Town[MOST_OF_SORT];
        final Days[] days = new Days[MOST_OF_SORT];
        final Plate[] plates = new Plate[MOST_OF_SORT];
        final int[] counts = new int[SORTS];
        final byte[] tape = new byte[TAPE];
        int length;
        int fault;
        int place = NONE;

        Told() {
            for (int i = 0; i < MOST_OF_SORT; i++) {
                towns[i] = new Town();
                days[i] = new Days();
                plates[i] = new Plate();
            }
        }

        void copyFrom(Told other) {
            for (int i = 0; i < MOST_OF_SORT; i++) {
                towns[i].copyFrom(other.towns[i]);
                days[i].copyFrom(other.days[i]);
                plates[i].copyFrom(other.plates[i]);
            }
            System.arraycopy(other.counts, 0, counts, 0, SORTS);
            System.arraycopy(other.tape, 0, tape, 0, TAPE);
            length = other.length;
            fault = other.fault;
            place = other.place;
        }

        void putNumber(int number) {
            for (int shift = 24; shift >= 0 && length < TAPE; shift -= 8) {
                tape[length] = (byte) (number >> shift);
                length++;
            }
        }
    }

    /** Reads a text into drafts, so that a faulty one leaves what was told as it was. */
    private static final class Reader {
        // Each word with one blank behind it; the constants below are their numbers in this row.
        private static final String WORDS =
                "rye bun crust toast wafer say bake eat butter talk night topics life house visit mind said loaf lies crumb for against ";
        private static final int FIRST_DEED = 5;
        private static final int WORD_SAY = FIRST_DEED + SAY;
        private static final int WORD_BAKE = FIRST_DEED + BAKE;
        private static final int WORD_EAT = FIRST_DEED + EAT;
        private static final int WORD_BUTTER = FIRST_DEED + BUTTER;
        private static final int WORD_TALK = FIRST_DEED + TALK;
        private static final int WORD_NIGHT = FIRST_DEED + NIGHT;
        private static final int WORD_TOPICS = 11;
        private static final int WORD_LIFE = 12;
        private static final int WORD_HOUSE = 13;
        private static final int WORD_VISIT = 14;
        private static final int WORD_MIND = 15;
        private static final int WORD_SAID = 16;
        private static final int WORD_LOAF = 17;
        private static final int WORD_LIES = 18;
        private static final int WORD_CRUMB = 19;
        private static final int WORD_FOR = 20;
        private static final int WORD_AGAINST = 21;

        private static final int THE_END = 0;
        private static final int SEMICOLON = 1;
        private static final int WORD = 2;
        private static final int NUMBER = 3;
        private static final int NO_TOKEN = 4;

        final Town town = new Town();
        final Days days = new Days();
        final Plate plate = new Plate();
        int fault;
        int place;
        private final int[] slots = new int[4];
        private byte[] tape = new byte[0];
        private int length;
        private int sort;
        private int at;
        private int token;
        private int start;
        private int value;
        private int greatestHouse;
        private int greatestTopic;

        void read(byte[] bytes, int count, int ofSort) {
            tape = bytes;
            length = Math.min(count, bytes.length);
            sort = ofSort;
            at = 0;
            fault = 0;
            place = NONE;
            greatestHouse = NONE;
            greatestTopic = NONE;
            town.clear();
            days.clear();
            plate.clear();
            readLines();
            if (fault == 0) {
                lookForMissing();
            }
        }

        /** A line takes a byte at least, so there are no more of them than bytes. */
        private void readLines() {
            for (int line = 0; line <= length; line++) {
                take();
                if (token == THE_END) {
                    return;
                }
                if (!readLine()) {
                    fault = 1;
                    place = start;
                    return;
                }
            }
        }

        private void lookForMissing() {
            if (sort == SORT_TOWN && greatestHouse >= town.houses) {
                note(4, length);
            }
            int topics = sort == SORT_PLATE ? plate.topics : town.topics;
            if (sort != SORT_DAYS && greatestTopic >= topics) {
                note(5, length);
            }
        }

        /** Places come in their order, so the first one noted is the one to tell. */
        private void note(int number, int where) {
            if (fault == 0) {
                fault = number;
                place = where;
            }
        }

        private boolean readLine() {
            if (token != WORD || !beginsLine(value)) {
                return false;
            }
            int word = value;
            if (isFull(word)) {
                note(3, start);
            }
            String shape = shapeOf(word);
            for (int i = 0; i < shape.length(); i++) {
                take();
                if (!readSlot(shape.charAt(i), i)) {
                    return false;
                }
            }
            take();
            if (token != SEMICOLON) {
                return false;
            }
            if (fault == 0) {
                keepLine(word);
            }
            return true;
        }

        private boolean beginsLine(int word) {
            switch (sort) {
                case SORT_TOWN:
                    return word >= WORD_TOPICS && word <= WORD_LOAF;
                case SORT_DAYS:
                    return word >= WORD_SAY && word <= WORD_NIGHT;
                default:
                    return word == WORD_TOPICS || word == WORD_LIES || word == WORD_CRUMB;
            }
        }

        private boolean isFull(int word) {
            switch (word) {
                case WORD_HOUSE:
                    return town.houses >= HOUSES;
                case WORD_SAID:
                    return town.saids >= SAIDS;
                case WORD_LOAF:
                    return town.loaves >= TOLD_LOAVES;
                case WORD_CRUMB:
                    return plate.crumbs >= CRUMBS;
                default:
                    return sort == SORT_DAYS && days.deeds >= DEEDS;
            }
        }

        /** What comes behind a line's first word, a sign each: see readSlot. */
        private static String shapeOf(int word) {
            switch (word) {
                case WORD_TOPICS:
                    return "c";
                case WORD_LIFE:
                    return "n";
                case WORD_HOUSE:
                    return "nz";
                case WORD_VISIT:
                    return "ha";
                case WORD_MIND:
                    return "htwv";
                case WORD_SAID:
                case WORD_SAY:
                    return "otwv";
                case WORD_LOAF:
                case WORD_BAKE:
                    return "ko";
                case WORD_EAT:
                case WORD_BUTTER:
                    return "hl";
                case WORD_TALK:
                    return "ho";
                case WORD_LIES:
                    return "z";
                case WORD_CRUMB:
                    return "btwv";
                default:
                    return "";
            }
        }

        private boolean readSlot(int slot, int i) {
            boolean wordWanted = slot == 'k' || slot == 'b' || slot == 'w';
            if (token != (wordWanted ? WORD : NUMBER)) {
                return false;
            }
            if (wordWanted && !isWordOf(slot, value)) {
                return false;
            }
            if (!wordWanted && !isNumberOf(slot, value)) {
                note(2, start);
            }
            if (i >= 0 && i < slots.length) {
                slots[i] = value;
            }
            return true;
        }

        private static boolean isWordOf(int slot, int word) {
            switch (slot) {
                case 'k':
                    return word >= RYE && word <= WAFER;
                case 'b':
                    return word == BUN || word == TOAST || word == WAFER;
                default:
                    return word == WORD_FOR || word == WORD_AGAINST;
            }
        }

        private boolean isNumberOf(int slot, int number) {
            switch (slot) {
                case 'c':
                    return number >= 1 && number <= TOPICS;
                case 'n':
                    return number >= 1 && number <= 9;
                case 'z':
                    return number <= 9;
                case 'h':
                    return number < HOUSES;
                case 'a':
                    return number < HOUSES && number != slots[0];
                case 't':
                    return number < TOPICS;
                case 'o':
                    return number < OVENS;
                case 'l':
                    return number < ALL_LOAVES;
                default:
                    return number <= GREATEST_VIEW;
            }
        }

        private void keepLine(int word) {
            switch (word) {
                case WORD_TOPICS:
                    keepTopics();
                    break;
                case WORD_LIFE:
                    town.life = slots[0];
                    break;
                case WORD_LIES:
                    plate.lies = slots[0];
                    break;
                case WORD_HOUSE:
                    keepHouse();
                    break;
                case WORD_VISIT:
                    keepVisit();
                    break;
                case WORD_MIND:
                    keepMind();
                    break;
                case WORD_SAID:
                    keepSaid();
                    break;
                case WORD_LOAF:
                    keepLoaf();
                    break;
                case WORD_CRUMB:
                    keepCrumb();
                    break;
                default:
                    keepDeed(word);
                    break;
            }
        }

        private void keepTopics() {
            if (sort == SORT_TOWN) {
                town.topics = slots[0];
            } else {
                plate.topics = slots[0];
            }
        }

        private void keepHouse() {
            if (town.houses < HOUSES) {
                town.votes[town.houses] = slots[0];
                town.stubborn[town.houses] = slots[1];
                town.houses++;
            }
        }

        private void keepVisit() {
            tellHouse(slots[0]);
            tellHouse(slots[1]);
            if (slots[0] < HOUSES) {
                town.visited[slots[0]] |= 1 << slots[1];
            }
        }

        private void keepMind() {
            tellHouse(slots[0]);
            tellTopic(slots[1]);
            if (slots[0] < HOUSES && slots[1] < TOPICS) {
                town.minds[slots[0] * TOPICS + slots[1]] = slotView();
            }
        }

        private void keepSaid() {
            tellTopic(slots[1]);
            if (town.saids < SAIDS) {
                int row = town.saids * 3;
                town.saidRows[row] = slots[0];
                town.saidRows[row + 1] = slots[1];
                town.saidRows[row + 2] = slotView();
                town.saids++;
            }
        }

        private void keepLoaf() {
            if (town.loaves < TOLD_LOAVES) {
                town.kinds[town.loaves] = slots[0];
                town.ovens[town.loaves] = slots[1];
                town.loaves++;
            }
        }

        private void keepDeed(int word) {
            if (days.deeds >= DEEDS) {
                return;
            }
            int row = days.deeds * 4;
            boolean two = word != WORD_NIGHT;
            days.rows[row] = word - FIRST_DEED;
            days.rows[row + 1] = two ? slots[0] : NO_NUMBER;
            days.rows[row + 2] = two ? slots[1] : NO_NUMBER;
            days.rows[row + 3] = word == WORD_SAY ? slotView() : NO_NUMBER;
            days.deeds++;
        }

        private void keepCrumb() {
            tellTopic(slots[1]);
            if (plate.crumbs < CRUMBS) {
                int row = plate.crumbs * 3;
                plate.rows[row] = slots[0];
                plate.rows[row + 1] = slots[1];
                plate.rows[row + 2] = slotView();
                plate.crumbs++;
            }
        }

        private void tellHouse(int house) {
            greatestHouse = Math.max(greatestHouse, house);
        }

        private void tellTopic(int topic) {
            greatestTopic = Math.max(greatestTopic, topic);
        }

        private int slotView() {
            return slots[2] == WORD_AGAINST ? -slots[3] : slots[3];
        }

        /** Takes the next token: its sort, its first byte, its number (of a word: which one, or NONE). */
        private void take() {
            while (at < length && (tape[at] == 32 || tape[at] == 10)) {
                at++;
            }
            start = at;
            value = NONE;
            token = NO_TOKEN;
            if (at >= length) {
                token = THE_END;
            } else if (tape[at] == ';') {
                at++;
                token = SEMICOLON;
            } else if (isDigit(tape[at])) {
                takeNumber();
            } else if (isLetter(tape[at])) {
                takeWord();
            }
        }

        private void takeNumber() {
            while (at < length && isDigit(tape[at])) {
                at++;
            }
            if (at - start <= 2) {
                token = NUMBER;
                int units = tape[at - 1] - '0';
                value = at - start == 2 ? (tape[start] - '0') * 10 + units : units;
            }
        }

        private void takeWord() {
            while (at < length && isLetter(tape[at])) {
                at++;
            }
            token = WORD;
            int number = 0;
            int from = 0;
            for (int i = 0; i < WORDS.length() && value == NONE; i++) {
                if (WORDS.charAt(i) == ' ') {
                    if (i - from == at - start && isWordFrom(from)) {
                        value = number;
                    }
                    number++;
                    from = i + 1;
                }
            }
        }

        private boolean isWordFrom(int from) {
            for (int i = start; i < at; i++) {
                if (tape[i] != WORDS.charAt(from + i - start)) {
                    return false;
                }
            }
            return true;
        }

        private static boolean isDigit(int sign) {
            return sign >= '0' && sign <= '9';
        }

        private static boolean isLetter(int sign) {
            return sign >= 'a' && sign <= 'z';
        }
    }

    /** A town as it begins and goes on, deed by deed. */
    private static final class Scene {
        Town town = new Town();
        int loaves;
        final int[] minds = new int[HOUSES * TOPICS];
        final int[] views = new int[ALL_LOAVES * TOPICS];
        private int night;
        private final int[] kinds = new int[ALL_LOAVES];
        private final int[] ages = new int[ALL_LOAVES];
        private final boolean[] eaten = new boolean[ALL_LOAVES];
        private final int[] latest = new int[OVENS * TOPICS];
        private final int[] past = new int[OVENS * TOPICS];
        private final int[] last = new int[OVENS];
        private final int[] foes = new int[ALL_LOAVES];

        void begin(Town of) {
            town = of;
            night = 0;
            loaves = 0;
            System.arraycopy(of.minds, 0, minds, 0, HOUSES * TOPICS);
            Arrays.fill(latest, 0);
            Arrays.fill(past, 0);
            Arrays.fill(last, NONE);
            for (int i = 0; i < of.saids; i++) {
                utter(of.saidRows[i * 3], of.saidRows[i * 3 + 1], of.saidRows[i * 3 + 2]);
            }
            for (int i = 0; i < of.loaves; i++) {
                addLoaf(of.kinds[i], of.ovens[i], 1);
            }
        }

        /** Goes through the first n deeds: the first that can't be, or n. */
        int live(Days days, int n) {
            for (int i = 0; i < n; i++) {
                int row = i * 4;
                if (!goOn(days.rows[row], days.rows[row + 1], days.rows[row + 2], days.rows[row + 3])) {
                    return i;
                }
            }
            return n;
        }

        /** Does a deed, or leaves all as it is and answers false. */
        boolean goOn(int sort, int a, int b, int c) {
            switch (sort) {
                case SAY:
                    return utter(a, b, c);
                case BAKE:
                    return addLoaf(a, b, 0);
                case EAT:
                    return giveLoaf(a, b, 1);
                case BUTTER:
                    return giveLoaf(a, b, 2);
                case TALK:
                    return speakMind(a, b);
                default:
                    passNight();
                    return true;
            }
        }

        private boolean utter(int oven, int topic, int view) {
            if (oven < 0 || oven >= OVENS || !town.hasTopic(topic)) {
                return false;
            }
            int cell = oven * TOPICS + topic;
            past[cell] = latest[cell];
            latest[cell] = view;
            last[oven] = topic;
            return true;
        }

        private boolean addLoaf(int kind, int oven, int age) {
            if (loaves >= ALL_LOAVES || oven < 0 || oven >= OVENS) {
                return false;
            }
            kinds[loaves] = kind;
            ages[loaves] = age;
            eaten[loaves] = false;
            for (int t = 0; t < town.topics; t++) {
                views[loaves * TOPICS + t] = bakedView(kind, oven, t);
            }
            loaves++;
            return true;
        }

        private int bakedView(int kind, int oven, int topic) {
            int cell = oven * TOPICS + topic;
            if (kind == RYE) {
                return past[cell];
            }
            if (kind == CRUST && topic != last[oven]) {
                return 0;
            }
            return viewOfKind(kind, latest[cell]);
        }

        private boolean giveLoaf(int house, int loaf, int most) {
            if (!town.hasHouse(house) || loaf < 0 || loaf >= loaves || !canEat(house, loaf)) {
                return false;
            }
            bite(minds, house * TOPICS, loaf, most);
            eaten[loaf] = true;
            return true;
        }

        private boolean canEat(int house, int loaf) {
            return fate(loaf) == 1 && isAgreed(minds, house * TOPICS, loaf, town.stubborn[house]);
        }

        /** The least loaf that a house may eat, or NONE. */
        int firstFor(int house) {
            for (int l = 0; l < loaves; l++) {
                if (canEat(house, l)) {
                    return l;
                }
            }
            return NONE;
        }

        private boolean speakMind(int house, int oven) {
            if (!town.hasHouse(house)) {
                return false;
            }
            for (int t = 0; t < town.topics; t++) {
                int view = minds[house * TOPICS + t];
                if (view != 0) {
                    utter(oven, t, view);
                }
            }
            return true;
        }

        private void passNight() {
            night++;
            for (int l = 0; l < loaves; l++) {
                ages[l]++;
            }
        }

        /** 0 baked today, 1 speaks, 2 stale, 3 eaten. */
        private int fate(int loaf) {
            if (eaten[loaf]) {
                return 3;
            }
            if (ages[loaf] > town.life && kinds[loaf] != WAFER) {
                return 2;
            }
            return ages[loaf] == 0 ? 0 : 1;
        }

        /** Whether six minds, from a place of a row on, agree with a loaf. */
        boolean isAgreed(int[] row, int from, int loaf, int stubborn) {
            int all = 0;
            boolean open = true;
            for (int t = 0; t < town.topics; t++) {
                int mind = row[from + t];
                all += mind * views[loaf * TOPICS + t];
                open = open && mind == 0;
            }
            return open || all >= stubborn;
        }

        /** Six minds, from a place of a row on, go towards a loaf's views; whether one of them moved. */
        boolean bite(int[] row, int from, int loaf, int most) {
            boolean moved = false;
            for (int t = 0; t < town.topics; t++) {
                int view = views[loaf * TOPICS + t];
                int way = view - row[from + t];
                if (view != 0 && way != 0) {
                    row[from + t] += Math.max(-most, Math.min(most, way));
                    moved = true;
                }
            }
            return moved;
        }

        private int tally(int topic) {
            int all = 0;
            for (int h = 0; h < town.houses; h++) {
                all += town.votes[h] * Integer.signum(minds[h * TOPICS + topic]);
            }
            return all;
        }

        private int topicsOfOneMind() {
            return town.topics - Integer.bitCount(splitTopics(minds, town.houses));
        }

        /** The topics (bits) on which one row is above 0 and another below. */
        private int splitTopics(int[] rows, int count) {
            int bits = 0;
            for (int t = 0; t < town.topics; t++) {
                int least = 0;
                int greatest = 0;
                for (int i = 0; i < count; i++) {
                    least = Math.min(least, rows[i * TOPICS + t]);
                    greatest = Math.max(greatest, rows[i * TOPICS + t]);
                }
                if (least < 0 && greatest > 0) {
                    bits |= 1 << t;
                }
            }
            return bits;
        }

        private int countEaten() {
            int all = 0;
            for (int l = 0; l < loaves; l++) {
                all += eaten[l] ? 1 : 0;
            }
            return all;
        }

        /** What state() asks for. */
        int reply(int what) {
            if (what < 10) {
                return replyWhole(what);
            }
            if (what < 20) {
                return town.hasTopic(what - 10) ? tally(what - 10) : NO_STATE;
            }
            if (what < 40) {
                return what - 20 < loaves ? fate(what - 20) : NO_STATE;
            }
            if (what < 100) {
                return cellOf(minds, what - 40, town.houses);
            }
            if (what < 200) {
                return cellOf(views, what - 100, loaves);
            }
            if (what < 240) {
                return cellOf(latest, what - 200, OVENS);
            }
            if (what < 280) {
                return cellOf(past, what - 240, OVENS);
            }
            if (what < 300) {
                return what - 280 < OVENS ? last[what - 280] : NO_STATE;
            }
            return replyAgreed((what - 300) / ALL_LOAVES, (what - 300) % ALL_LOAVES);
        }

        private int replyWhole(int what) {
            switch (what) {
                case 0:
                    return night;
                case 1:
                    return loaves;
                case 2:
                    return countEaten();
                case 3:
                    return topicsOfOneMind();
                default:
                    return NO_STATE;
            }
        }

        private int cellOf(int[] rows, int cell, int count) {
            boolean there = cell / TOPICS < count && cell % TOPICS < town.topics;
            return there ? rows[cell] : NO_STATE;
        }

        private int replyAgreed(int house, int loaf) {
            if (!town.hasHouse(house) || loaf >= loaves) {
                return NO_STATE;
            }
            return isAgreed(minds, house * TOPICS, loaf, town.stubborn[house]) ? 1 : 0;
        }

        int votesBeside(int loaf, int topic) {
            int sign = Integer.signum(views[loaf * TOPICS + topic]);
            int all = 0;
            for (int h = 0; h < town.houses; h++) {
                boolean beside = Integer.signum(minds[h * TOPICS + topic]) == sign;
                if (beside && isAgreed(minds, h * TOPICS, loaf, town.stubborn[h])) {
                    all += town.votes[h];
                }
            }
            return all;
        }

        /** All clashes go away only with every topic on which there are loaves of both signs. */
        int strike() {
            return splitTopics(views, loaves);
        }

        int clashes() {
            findFoes();
            int all = 0;
            for (int l = 0; l < loaves; l++) {
                all += Integer.bitCount(foes[l]);
            }
            return all / 2;
        }

        int together() {
            findFoes();
            int best = 0;
            for (int set = 1; set < 1 << loaves; set++) {
                if (Integer.bitCount(set) > Integer.bitCount(best) && isPeaceful(set)) {
                    best = set;
                }
            }
            return best;
        }

        private boolean isPeaceful(int set) {
            for (int l = 0; l < loaves; l++) {
                if ((set >> l & 1) != 0 && (foes[l] & set) != 0) {
                    return false;
                }
            }
            return true;
        }

        /** Of each loaf the loaves (bits) that clash with it. */
        private void findFoes() {
            for (int one = 0; one < loaves; one++) {
                foes[one] = 0;
                for (int other = 0; other < loaves; other++) {
                    if (isClash(one, other)) {
                        foes[one] |= 1 << other;
                    }
                }
            }
        }

        private boolean isClash(int one, int other) {
            for (int t = 0; t < town.topics; t++) {
                if (views[one * TOPICS + t] * views[other * TOPICS + t] < 0) {
                    return true;
                }
            }
            return false;
        }
    }

    /** Which loaves to give to whom: of a scene as it begins, with at most 8 loaves. */
    private static final class Meals {
        private static final int SETS = 1 << TOLD_LOAVES;
        // Far below every tally, also with votes of eight houses added.
        private static final int NEVER = -100000;
        private static final int SEEN = 2048;
        private static final int SEEN_SHIFT = 21;

        int greatest;
        int least;
        int orders;
        private final Scene scene;
        private final int[] after = new int[SETS * TOPICS];
        private final int[] tallies = new int[SETS];
        private final int[] levels = new int[(TOLD_LOAVES + 1) * TOPICS];
        private final int[] seen = new int[SEEN];
        private int topic;
        private int stubborn;
        private int limit;
        private int lifting;
        private int best;

        Meals(Scene of) {
            scene = of;
        }

        /** Of each set of loaves, all given away, the greatest tally; house by house. */
        void share(int onTopic) {
            topic = onTopic;
            Arrays.fill(tallies, NEVER);
            tallies[0] = 0;
            for (int h = 0; h < scene.town.houses; h++) {
                eatSets(h);
                addHouse(scene.town.votes[h]);
            }
        }

        /** The minds of a house behind each set: those behind the set without its last loaf go on. */
        private void eatSets(int house) {
            System.arraycopy(scene.minds, house * TOPICS, after, 0, TOPICS);
            for (int l = 0; l < scene.loaves; l++) {
                for (int set = 1 << l; set < 2 << l; set++) {
                    int row = set * TOPICS;
                    System.arraycopy(after, (set - (1 << l)) * TOPICS, after, row, TOPICS);
                    if (scene.isAgreed(after, row, l, scene.town.stubborn[house])) {
                        scene.bite(after, row, l, 1);
                    }
                }
            }
        }

        /** Downwards, since a set looks at smaller numbers alone, which must be those without this house. */
        private void addHouse(int votes) {
            for (int set = (1 << scene.loaves) - 1; set >= 0; set--) {
                int most = NEVER;
                for (int part = set; part >= 0; part = part == 0 ? NONE : (part - 1) & set) {
                    int sign = Integer.signum(after[part * TOPICS + topic]);
                    most = Math.max(most, tallies[set - part] + votes * sign);
                }
                tallies[set] = most;
            }
        }

        int greatestTally() {
            int most = NEVER;
            for (int set = 0; set < 1 << scene.loaves; set++) {
                most = Math.max(most, tallies[set]);
            }
            return most;
        }

        /** The fewest loaves (bits) by which the tally is above 0, or NONE. */
        int fewestGiven() {
            int fewest = NONE;
            for (int set = 0; set < 1 << scene.loaves; set++) {
                boolean fewer = fewest == NONE || Integer.bitCount(set) < Integer.bitCount(fewest);
                if (tallies[set] > 0 && fewer) {
                    fewest = set;
                }
            }
            return fewest;
        }

        /** A house goes through some loaves in all orders. */
        void dine(int house, int loaves, int onTopic) {
            sit(house, onTopic);
            greatest = -GREATEST_VIEW;
            least = GREATEST_VIEW;
            orders = 0;
            goThrough(0, loaves, true);
        }

        private void sit(int house, int onTopic) {
            topic = onTopic;
            stubborn = scene.town.stubborn[house];
            System.arraycopy(scene.minds, house * TOPICS, levels, 0, TOPICS);
        }

        private void goThrough(int depth, int left, boolean allEaten) {
            if (left == 0 || depth >= TOLD_LOAVES) {
                greatest = Math.max(greatest, levels[depth * TOPICS + topic]);
                least = Math.min(least, levels[depth * TOPICS + topic]);
                orders += allEaten ? 1 : 0;
                return;
            }
            for (int l = 0; l < scene.loaves; l++) {
                if ((left >> l & 1) != 0) {
                    int next = deeper(depth);
                    boolean eats = scene.isAgreed(levels, next, l, stubborn);
                    if (eats) {
                        scene.bite(levels, next, l, 1);
                    }
                    goThrough(depth + 1, left - (1 << l), allEaten && eats);
                }
            }
        }

        /** Copies the minds of a depth to the next one; where they stand. */
        private int deeper(int depth) {
            int next = (depth + 1) * TOPICS;
            System.arraycopy(levels, depth * TOPICS, levels, next, TOPICS);
            return next;
        }

        /** The fewest loaves (bits) by which a house's mind comes above 0, or NONE. */
        int winOver(int house, int onTopic) {
            sit(house, onTopic);
            findLifting();
            Arrays.fill(seen, 0);
            best = SETS;
            for (int fewest = 0; fewest <= scene.loaves && best == SETS; fewest++) {
                limit = fewest;
                search(0, 0);
            }
            return best == SETS ? NONE : best;
        }

        /** The loaves (bits) that are for the topic: by no others a mind comes from below 0 to 0, or above it. */
        private void findLifting() {
            lifting = 0;
            for (int l = 0; l < scene.loaves; l++) {
                if (scene.views[l * TOPICS + topic] > 0) {
                    lifting |= 1 << l;
                }
            }
        }

        private void search(int depth, int used) {
            int mind = levels[depth * TOPICS + topic];
            if (mind > 0) {
                best = Math.min(best, used);
                return;
            }
            if (depth >= TOLD_LOAVES || isHopeless(depth, used, 1 - mind) || isSeen(depth, used)) {
                return;
            }
            for (int l = 0; l < scene.loaves; l++) {
                if ((used >> l & 1) == 0 && scene.isAgreed(levels, depth * TOPICS, l, stubborn)) {
                    // A loaf that moves nothing could be left out, so it is in no fewest set.
                    if (scene.bite(levels, deeper(depth), l, 1)) {
                        search(depth + 1, used | 1 << l);
                    }
                }
            }
        }

        /** Each loaf moves a mind by 1 at most; the steps from -1 to 0, to 1 are by loaves that are for the topic. */
        private boolean isHopeless(int depth, int used, int way) {
            return limit - depth < way || Integer.bitCount(lifting & ~used) < Math.min(way, 2);
        }

        /** Whether the search was here before; it may forget, which costs time alone. */
        private boolean isSeen(int depth, int used) {
            int key = 0;
            for (int t = 0; t < scene.town.topics; t++) {
                key = key * VIEWS + levels[depth * TOPICS + t] + GREATEST_VIEW;
            }
            key = (key * SETS + used) * (TOLD_LOAVES + 1) + limit + 1;
            int cell = (key * 0x9E3779B1) >>> SEEN_SHIFT;
            if (seen[cell] == key) {
                return true;
            }
            seen[cell] = key;
            return false;
        }
    }

    /** Minds that go on by visits: signs are bits, those above 0 in the lower byte, those below in the next. */
    private static final class Walk {
        // There are 6561 states (three signs, eight houses): no walk to a mark and round is as long.
        private static final int FAR = 40000;

        static int signs(Town town, int topic) {
            int bits = 0;
            for (int h = 0; h < town.houses; h++) {
                bits |= placed(town.minds[h * TOPICS + topic], h);
            }
            return bits;
        }

        private static int placed(int number, int house) {
            if (number == 0) {
                return 0;
            }
            return number > 0 ? 1 << house : 1 << (house + HOUSES);
        }

        static int signOf(int signs, int house) {
            return (signs >> house & 1) - (signs >> (house + HOUSES) & 1);
        }

        static int step(Town town, int signs, int hermits) {
            int next = 0;
            for (int h = 0; h < town.houses; h++) {
                int hosts = (hermits >> h & 1) != 0 ? 0 : town.visited[h];
                int all = Integer.bitCount(hosts & signs) - Integer.bitCount(hosts & (signs >> HOUSES));
                next |= placed(all != 0 ? all : signOf(signs, h), h);
            }
            return next;
        }

        /** Brent's way: the mark jumps ahead at powers of 2, until the walk comes back to it. */
        static int period(Town town, int from, int hermits) {
            int mark = from;
            int walker = step(town, from, hermits);
            int power = 1;
            int steps = 1;
            for (int i = 0; i < FAR && walker != mark; i++) {
                if (steps == power) {
                    mark = walker;
                    power *= 2;
                    steps = 0;
                }
                walker = step(town, walker, hermits);
                steps++;
            }
            return steps;
        }

        static int tail(Town town, int topic) {
            int slow = signs(town, topic);
            int ahead = slow;
            int round = period(town, slow, 0);
            for (int i = 0; i < round; i++) {
                ahead = step(town, ahead, 0);
            }
            int steps = 0;
            for (int i = 0; i < FAR && slow != ahead; i++) {
                slow = step(town, slow, 0);
                ahead = step(town, ahead, 0);
                steps++;
            }
            return steps;
        }

        static int fewestHermits(Town town, int topic) {
            int from = signs(town, topic);
            int best = (1 << town.houses) - 1;
            for (int set = 0; set < 1 << town.houses; set++) {
                if (Integer.bitCount(set) < Integer.bitCount(best) && period(town, from, set) == 1) {
                    best = set;
                }
            }
            return best;
        }
    }

    /** Two bakers. */
    private static final class Market {
        // What one sells by a view (row) against another's (column), each 3 more.
        private final int[] sold = new int[VIEWS * VIEWS];
        private final int[] most = new int[VIEWS];

        static int buyers(Town town, int topic, int mine, int others) {
            int all = 0;
            for (int h = 0; h < town.houses; h++) {
                int mind = town.minds[h * TOPICS + topic];
                if (Math.abs(mind - mine) < Math.abs(mind - others)) {
                    all += town.votes[h];
                }
            }
            return all;
        }

        void open(Town town, int topic) {
            for (int others = 0; others < VIEWS; others++) {
                most[others] = 0;
                for (int mine = 0; mine < VIEWS; mine++) {
                    int all = buyers(town, topic, mine - GREATEST_VIEW, others - GREATEST_VIEW);
                    sold[mine * VIEWS + others] = all;
                    most[others] = Math.max(most[others], all);
                }
            }
        }

        /** How many couples rest (k NONE), or the k-th, or NONE. */
        int restAt(int k) {
            int found = 0;
            for (int couple = 0; couple < VIEWS * VIEWS; couple++) {
                if (isRest(couple / VIEWS, couple % VIEWS)) {
                    if (found == k) {
                        return couple;
                    }
                    found++;
                }
            }
            return k == NONE ? found : NONE;
        }

        private boolean isRest(int one, int two) {
            return sold[one * VIEWS + two] == most[two] && sold[two * VIEWS + one] == most[one];
        }
    }

    /** What was said by an oven, by crumbs; topics go by themselves, only the lies add up. */
    private static final class Guess {
        // Above 7 to the 6th, all rows there are.
        private static final int MORE_THAN_ALL = 1000000;

        private Plate plate = new Plate();
        // Of each topic, of each view (3 more): crumbs that would lie; rows that fit and have it.
        private final int[] misses = new int[TOPICS * VIEWS];
        private final int[] fitting = new int[TOPICS * VIEWS];
        private int[] ways = new int[CRUMBS + 1];
        private int[] wider = new int[CRUMBS + 1];
        private final int[] groups = new int[VIEWS];

        void weigh(Plate of) {
            plate = of;
            countMisses();
            for (int t = 0; t < plate.topics; t++) {
                mixOthers(t);
                for (int v = t * VIEWS; v < (t + 1) * VIEWS; v++) {
                    fitting[v] = 0;
                    for (int lies = 0; lies <= CRUMBS && lies + misses[v] <= plate.lies; lies++) {
                        fitting[v] += ways[lies];
                    }
                }
            }
        }

        private void countMisses() {
            Arrays.fill(misses, 0);
            for (int i = 0; i < plate.crumbs; i++) {
                int row = plate.rows[i * 3 + 1] * VIEWS;
                for (int v = 0; v < VIEWS; v++) {
                    int told = viewOfKind(plate.rows[i * 3], v - GREATEST_VIEW);
                    misses[row + v] += told == plate.rows[i * 3 + 2] ? 0 : 1;
                }
            }
        }

        /** Rows of all topics but one, by how many crumbs lie in them. */
        private void mixOthers(int but) {
            Arrays.fill(ways, 0);
            ways[0] = 1;
            for (int t = 0; t < plate.topics; t++) {
                if (t != but) {
                    mixTopic(t);
                }
            }
        }

        private void mixTopic(int topic) {
            Arrays.fill(wider, 0);
            for (int v = topic * VIEWS; v < (topic + 1) * VIEWS; v++) {
                for (int lies = 0; lies + misses[v] <= CRUMBS; lies++) {
                    wider[lies + misses[v]] += ways[lies];
                }
            }
            int[] spare = ways;
            ways = wider;
            wider = spare;
        }

        int whole(int what) {
            switch (what) {
                case 0:
                    return countFitting();
                case 1:
                    return fewestLies();
                case 2:
                    return countFitting() == 0 ? NO_VIEW : nextTry();
                default:
                    return NO_VIEW;
            }
        }

        private int countFitting() {
            int all = 0;
            for (int v = 0; v < VIEWS; v++) {
                all += fitting[v];
            }
            return all;
        }

        private int fewestLies() {
            int all = 0;
            for (int t = 0; t < plate.topics; t++) {
                int fewest = CRUMBS;
                for (int v = 0; v < VIEWS; v++) {
                    fewest = Math.min(fewest, misses[t * VIEWS + v]);
                }
                all += fewest;
            }
            return all;
        }

        private int nextTry() {
            int best = NO_VIEW;
            int least = MORE_THAN_ALL;
            for (int number = BUN * TOPICS; number < (WAFER + 1) * TOPICS; number++) {
                int kind = number / TOPICS;
                boolean there = kind != CRUST && number % TOPICS < plate.topics;
                if (there && greatestGroup(kind, number % TOPICS) < least) {
                    least = greatestGroup(kind, number % TOPICS);
                    best = number;
                }
            }
            return best;
        }

        private int greatestGroup(int kind, int topic) {
            Arrays.fill(groups, 0);
            int greatest = 0;
            for (int v = 0; v < VIEWS; v++) {
                int group = viewOfKind(kind, v - GREATEST_VIEW) + GREATEST_VIEW;
                groups[group] += fitting[topic * VIEWS + v];
                greatest = Math.max(greatest, groups[group]);
            }
            return greatest;
        }

        int leastView(int topic) {
            for (int v = 0; v < VIEWS; v++) {
                if (fitting[topic * VIEWS + v] > 0) {
                    return v - GREATEST_VIEW;
                }
            }
            return NO_VIEW;
        }

        int mostView(int topic) {
            for (int v = VIEWS - 1; v >= 0; v--) {
                if (fitting[topic * VIEWS + v] > 0) {
                    return v - GREATEST_VIEW;
                }
            }
            return NO_VIEW;
        }
    }

    /** Juries: chances as parts of ten to the n. */
    private static final class Chance {
        static boolean canBe(int n, int a) {
            return n >= 1 && n <= 12 && a >= 0 && a <= 10;
        }

        static long power(long base, int exponent) {
            long all = 1;
            for (int i = 0; i < exponent; i++) {
                all *= base;
            }
            return all;
        }

        private static long exactly(int n, int k, int a) {
            long all = power(a, k) * power(10 - a, n - k);
            for (int i = 0; i < k; i++) {
                all = all * (n - i) / (i + 1);
            }
            return all;
        }

        static long atLeast(int n, int k, int a) {
            long all = 0;
            for (int i = k; i <= n; i++) {
                all += exactly(n, i, a);
            }
            return all;
        }

        static long commonDivisor(long one, long other) {
            long great = one;
            long small = other;
            for (int i = 0; i < 100 && small != 0; i++) {
                long left = great % small;
                great = small;
                small = left;
            }
            return great;
        }

        static int bestBound(int n, int a, int b) {
            long whole = power(10, n);
            // With k at 0 no jury is too small, and all of them err the other way.
            long least = whole;
            int best = 0;
            for (int k = 1; k <= n + 1; k++) {
                long errors = whole - atLeast(n, k, a) + atLeast(n, k, b);
                if (errors < least) {
                    least = errors;
                    best = k;
                }
            }
            return best;
        }
    }
}
