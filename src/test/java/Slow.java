import java.math.BigInteger;
import java.util.ArrayList;
import java.util.HashMap;
import java.util.HashSet;
import java.util.List;
import java.util.Map;
import java.util.Set;
import java.util.TreeSet;
import java.util.regex.Matcher;
import java.util.regex.Pattern;

/** The document once more, as plainly and slowly as it goes: by trying everything. The tests compare with it. */
final class Slow {
    static final List<String> KINDS = List.of("rye", "bun", "crust", "toast", "wafer");
    static final List<String> DEEDS = List.of("say", "bake", "eat", "butter", "talk", "night");

    private Slow() {
    }

    // ---- texts

    record Token(String text, int place) {
    }

    static final class Parsed {
        int fault;
        int place = -1;
        List<List<String>> lines = new ArrayList<>();
    }

    private static final Map<String, String> TOWN_LINES = Map.of(
            "topics", "1-6", "life", "1-9", "house", "1-9 0-9", "visit", "0-7 0-7",
            "mind", "0-7 0-5 V 0-3", "said", "0-3 0-5 V 0-3", "loaf", "K 0-3");
    private static final Map<String, String> DAYS_LINES = Map.of(
            "say", "0-3 0-5 V 0-3", "bake", "K 0-3", "eat", "0-7 0-15", "butter", "0-7 0-15", "talk", "0-7 0-3", "night", "");
    private static final Map<String, String> PLATE_LINES = Map.of("topics", "1-6", "lies", "0-9", "crumb", "C 0-5 V 0-3");

    static Parsed parse(int sort, String text) {
        Map<String, String> forms = List.of(TOWN_LINES, DAYS_LINES, PLATE_LINES).get(sort);
        List<Token> tokens = tokens(text);
        Parsed parsed = new Parsed();
        TreeSet<Integer> two = new TreeSet<>();
        TreeSet<Integer> three = new TreeSet<>();
        Map<String, Integer> counts = new HashMap<>();
        int i = 0;
        while (i < tokens.size() - 1) {
            Token first = tokens.get(i);
            String form = forms.get(first.text);
            if (form == null) {
                return failed(parsed, 1, first.place);
            }
            String what = sort == 1 ? "deed" : first.text;
            counts.merge(what, 1, Integer::sum);
            Integer limit = Map.of("house", 8, "said", 12, "loaf", 8, "deed", 40, "crumb", 12).get(what);
            if (limit != null && counts.get(what) > limit) {
                three.add(first.place);
            }
            List<String> line = new ArrayList<>();
            line.add(first.text);
            for (String slot : (form + " ;").trim().split(" +")) {
                i++;
                Token token = tokens.get(i);
                if (!goesOn(slot, token.text)) {
                    return failed(parsed, 1, token.place);
                }
                boolean same = first.text.equals("visit") && line.size() == 2 && number(token.text) == number(line.get(1));
                if (slot.contains("-") && (!inside(slot, number(token.text)) || same)) {
                    two.add(token.place);
                }
                line.add(token.text);
            }
            i++;
            parsed.lines.add(line);
        }
        if (!two.isEmpty() && (three.isEmpty() || two.first() <= three.first())) {
            return failed(parsed, 2, two.first());
        }
        if (!three.isEmpty()) {
            return failed(parsed, 3, three.first());
        }
        return missing(sort, parsed, text.length());
    }

    private static Parsed missing(int sort, Parsed parsed, int end) {
        int houses = 0;
        int topics = 3;
        Set<Integer> toldHouses = new HashSet<>();
        Set<Integer> toldTopics = new HashSet<>();
        for (List<String> line : parsed.lines) {
            switch (line.get(0)) {
                case "topics" -> topics = number(line.get(1));
                case "house" -> houses++;
                case "visit" -> {
                    toldHouses.add(number(line.get(1)));
                    toldHouses.add(number(line.get(2)));
                }
                case "mind" -> {
                    toldHouses.add(number(line.get(1)));
                    toldTopics.add(number(line.get(2)));
                }
                case "said", "crumb" -> toldTopics.add(number(line.get(2)));
                default -> { }
            }
        }
        int there = houses;
        int spoken = topics;
        if (sort == 0 && toldHouses.stream().anyMatch(h -> h >= there)) {
            return failed(parsed, 4, end);
        }
        if (toldTopics.stream().anyMatch(t -> t >= spoken)) {
            return failed(parsed, 5, end);
        }
        return parsed;
    }

    private static Parsed failed(Parsed parsed, int fault, int place) {
        parsed.fault = fault;
        parsed.place = place;
        return parsed;
    }

    private static boolean goesOn(String slot, String token) {
        return switch (slot) {
            case "V" -> token.equals("for") || token.equals("against");
            case "K" -> KINDS.contains(token);
            case "C" -> token.equals("bun") || token.equals("toast") || token.equals("wafer");
            case ";" -> token.equals(";");
            default -> token.matches("[0-9]{1,2}");
        };
    }

    private static boolean inside(String range, int number) {
        String[] ends = range.split("-");
        return number >= Integer.parseInt(ends[0]) && number <= Integer.parseInt(ends[1]);
    }

    /** The last one is the end; a byte that begins no token is one that nothing goes on with. */
    private static List<Token> tokens(String text) {
        List<Token> all = new ArrayList<>();
        Matcher m = Pattern.compile("[\n ]+|([a-z]+|[0-9]+|;|[^a-z0-9; \n])").matcher(text);
        while (m.find()) {
            if (m.group(1) != null) {
                all.add(new Token(m.group(1), m.start()));
            }
        }
        all.add(new Token("", text.length()));
        return all;
    }

    static int number(String digits) {
        return Integer.parseInt(digits);
    }

    private static int view(List<String> line, int at) {
        int size = number(line.get(at + 1));
        return line.get(at).equals("for") ? size : -size;
    }

    // ---- towns

    static final class Town {
        int topics = 3;
        int life = 3;
        List<int[]> houses = new ArrayList<>();
        int[][] minds = new int[8][6];
        List<Set<Integer>> visits = new ArrayList<>();
        List<int[]> said = new ArrayList<>();
        List<int[]> loaves = new ArrayList<>();

        Town(Parsed parsed) {
            for (int h = 0; h < 8; h++) {
                visits.add(new TreeSet<>());
            }
            for (List<String> line : parsed.lines) {
                switch (line.get(0)) {
                    case "topics" -> topics = number(line.get(1));
                    case "life" -> life = number(line.get(1));
                    case "house" -> houses.add(new int[] {number(line.get(1)), number(line.get(2))});
                    case "visit" -> visits.get(number(line.get(1))).add(number(line.get(2)));
                    case "mind" -> minds[number(line.get(1))][number(line.get(2))] = view(line, 3);
                    case "said" -> said.add(new int[] {number(line.get(1)), number(line.get(2)), view(line, 3)});
                    default -> loaves.add(new int[] {KINDS.indexOf(line.get(1)), number(line.get(2))});
                }
            }
        }
    }

    static List<int[]> deeds(Parsed parsed) {
        List<int[]> all = new ArrayList<>();
        for (List<String> line : parsed.lines) {
            int sort = DEEDS.indexOf(line.get(0));
            int[] deed = {sort, -8, -8, -8};
            if (sort == 1) {
                deed[1] = KINDS.indexOf(line.get(1));
            } else if (sort != 5) {
                deed[1] = number(line.get(1));
            }
            if (sort != 5) {
                deed[2] = number(line.get(2));
            }
            if (sort == 0) {
                deed[3] = view(line, 3);
            }
            all.add(deed);
        }
        return all;
    }

    static final class Loaf {
        int kind;
        int[] views;
        int born;
        boolean eaten;
    }

    /** A scene keeps the whole talk by each oven and looks back in it. */
    static final class Scene {
        final Town town;
        int night;
        int[][] minds = new int[8][];
        List<Loaf> loaves = new ArrayList<>();
        List<List<int[]>> talk = new ArrayList<>();

        Scene(Town town) {
            this.town = town;
            for (int h = 0; h < 8; h++) {
                minds[h] = town.minds[h].clone();
            }
            for (int o = 0; o < 4; o++) {
                talk.add(new ArrayList<>());
            }
            for (int[] s : town.said) {
                talk.get(s[0]).add(new int[] {s[1], s[2]});
            }
            for (int[] l : town.loaves) {
                bake(l[0], l[1], -1);
            }
        }

        int back(int oven, int topic, int which) {
            List<Integer> views = new ArrayList<>();
            views.add(0);
            views.add(0);
            for (int[] s : talk.get(oven)) {
                if (s[0] == topic) {
                    views.add(s[1]);
                }
            }
            return views.get(views.size() - 1 - which);
        }

        int last(int oven) {
            List<int[]> all = talk.get(oven);
            return all.isEmpty() ? -1 : all.get(all.size() - 1)[0];
        }

        void bake(int kind, int oven, int born) {
            Loaf loaf = new Loaf();
            loaf.kind = kind;
            loaf.born = born;
            loaf.views = new int[town.topics];
            for (int t = 0; t < town.topics; t++) {
                int latest = back(oven, t, 0);
                loaf.views[t] = switch (kind) {
                    case 0 -> back(oven, t, 1);
                    case 2 -> last(oven) == t ? latest : 0;
                    default -> ofKind(kind, latest);
                };
            }
            loaves.add(loaf);
        }

        boolean stale(Loaf l) {
            return night - l.born > town.life && l.kind != 4;
        }

        boolean speaks(Loaf l) {
            return night - l.born >= 1 && !stale(l) && !l.eaten;
        }

        boolean mayEat(int house, int loaf) {
            return speaks(loaves.get(loaf)) && agrees(minds[house], loaves.get(loaf).views, town.houses.get(house)[1]);
        }

        boolean go(int[] deed) {
            int a = deed[1];
            int b = deed[2];
            switch (deed[0]) {
                case 0 -> {
                    if (b >= town.topics) {
                        return false;
                    }
                    talk.get(a).add(new int[] {b, deed[3]});
                }
                case 1 -> {
                    if (loaves.size() == 16) {
                        return false;
                    }
                    bake(a, b, night);
                }
                case 2, 3 -> {
                    if (a >= town.houses.size() || b < 0 || b >= loaves.size() || !mayEat(a, b)) {
                        return false;
                    }
                    eat(minds[a], loaves.get(b).views);
                    if (deed[0] == 3) {
                        eat(minds[a], loaves.get(b).views);
                    }
                    loaves.get(b).eaten = true;
                }
                case 4 -> {
                    if (a >= town.houses.size()) {
                        return false;
                    }
                    for (int t = 0; t < town.topics; t++) {
                        if (minds[a][t] != 0) {
                            talk.get(b).add(new int[] {t, minds[a][t]});
                        }
                    }
                }
                default -> night++;
            }
            return true;
        }

        /** All that state() can tell: what, answer. */
        Map<Integer, Integer> all() {
            Map<Integer, Integer> all = new HashMap<>();
            all.put(0, night);
            all.put(1, loaves.size());
            all.put(2, (int) loaves.stream().filter(l -> l.eaten).count());
            int one = 0;
            for (int t = 0; t < town.topics; t++) {
                boolean split = false;
                for (int h = 0; h < town.houses.size(); h++) {
                    for (int g = 0; g < town.houses.size(); g++) {
                        split |= minds[h][t] > 0 && minds[g][t] < 0;
                    }
                }
                one += split ? 0 : 1;
                all.put(10 + t, tally(town, minds, t));
                for (int h = 0; h < town.houses.size(); h++) {
                    all.put(40 + 6 * h + t, minds[h][t]);
                }
                for (int l = 0; l < loaves.size(); l++) {
                    all.put(100 + 6 * l + t, loaves.get(l).views[t]);
                }
                for (int o = 0; o < 4; o++) {
                    all.put(200 + 6 * o + t, back(o, t, 0));
                    all.put(240 + 6 * o + t, back(o, t, 1));
                }
            }
            all.put(3, one);
            for (int o = 0; o < 4; o++) {
                all.put(280 + o, last(o));
            }
            for (int l = 0; l < loaves.size(); l++) {
                Loaf loaf = loaves.get(l);
                all.put(20 + l, loaf.eaten ? 3 : night == loaf.born ? 0 : speaks(loaf) ? 1 : 2);
                for (int h = 0; h < town.houses.size(); h++) {
                    all.put(300 + 16 * h + l, agrees(minds[h], loaf.views, town.houses.get(h)[1]) ? 1 : 0);
                }
            }
            return all;
        }
    }

    static int ofKind(int kind, int latest) {
        return switch (kind) {
            case 1 -> new int[] {-1, -1, 0, 0, 0, 1, 1}[latest + 3];
            case 3 -> new int[] {-3, -3, -3, 0, 3, 3, 3}[latest + 3];
            default -> latest;
        };
    }

    static boolean agrees(int[] minds, int[] views, int stubborn) {
        int product = 0;
        boolean none = true;
        for (int t = 0; t < views.length; t++) {
            product += minds[t] * views[t];
            none &= minds[t] == 0;
        }
        return none || product >= stubborn;
    }

    static void eat(int[] minds, int[] views) {
        for (int t = 0; t < views.length; t++) {
            if (views[t] != 0 && views[t] > minds[t]) {
                minds[t]++;
            } else if (views[t] != 0 && views[t] < minds[t]) {
                minds[t]--;
            }
        }
    }

    static int sgn(int x) {
        return x > 0 ? 1 : x < 0 ? -1 : 0;
    }

    static int tally(Town town, int[][] minds, int topic) {
        int all = 0;
        for (int h = 0; h < town.houses.size(); h++) {
            all += town.houses.get(h)[0] * sgn(minds[h][topic]);
        }
        return all;
    }

    // ---- shares, feast, sway

    static int[] shares(Town town, int topic) {
        Scene start = new Scene(town);
        int n = start.loaves.size();
        int[] to = new int[n];
        int greatest = Integer.MIN_VALUE;
        int best = -1;
        boolean more = true;
        while (more) {
            int[][] minds = new int[8][];
            for (int h = 0; h < 8; h++) {
                minds[h] = town.minds[h].clone();
            }
            int given = 0;
            for (int l = 0; l < n; l++) {
                if (to[l] > 0) {
                    given |= 1 << l;
                    int h = to[l] - 1;
                    if (agrees(minds[h], start.loaves.get(l).views, town.houses.get(h)[1])) {
                        eat(minds[h], start.loaves.get(l).views);
                    }
                }
            }
            int tally = tally(town, minds, topic);
            greatest = Math.max(greatest, tally);
            if (tally > 0 && (best < 0 || fewer(given, best))) {
                best = given;
            }
            int at = 0;
            while (at < n && to[at] == town.houses.size()) {
                to[at] = 0;
                at++;
            }
            more = at < n;
            if (more) {
                to[at]++;
            }
        }
        return new int[] {greatest, best < 0 ? -1 : Integer.bitCount(best), best};
    }

    private static boolean fewer(int set, int than) {
        int a = Integer.bitCount(set);
        int b = Integer.bitCount(than);
        return a < b || a == b && set < than;
    }

    static int[] feast(Town town, int house, int loaves, int topic) {
        Scene start = new Scene(town);
        List<Integer> bits = bits(loaves);
        int[] answer = {Integer.MIN_VALUE, Integer.MAX_VALUE, 0};
        for (List<Integer> order : orders(bits)) {
            int[] minds = town.minds[house].clone();
            int left = 0;
            for (int l : order) {
                if (agrees(minds, start.loaves.get(l).views, town.houses.get(house)[1])) {
                    eat(minds, start.loaves.get(l).views);
                } else {
                    left++;
                }
            }
            answer[0] = Math.max(answer[0], minds[topic]);
            answer[1] = Math.min(answer[1], minds[topic]);
            answer[2] += left == 0 ? 1 : 0;
        }
        return answer;
    }

    static List<Integer> bits(int set) {
        List<Integer> all = new ArrayList<>();
        for (int i = 0; i < 31; i++) {
            if ((set >> i & 1) == 1) {
                all.add(i);
            }
        }
        return all;
    }

    static List<List<Integer>> orders(List<Integer> things) {
        List<List<Integer>> all = new ArrayList<>();
        if (things.isEmpty()) {
            all.add(List.of());
        }
        for (Integer first : things) {
            List<Integer> others = new ArrayList<>(things);
            others.remove(first);
            for (List<Integer> order : orders(others)) {
                List<Integer> longer = new ArrayList<>();
                longer.add(first);
                longer.addAll(order);
                all.add(longer);
            }
        }
        return all;
    }

    /** By sets: the minds that a house can have behind eating all of a set. */
    static int sway(Town town, int house, int topic) {
        Scene start = new Scene(town);
        int n = start.loaves.size();
        List<Set<List<Integer>>> reached = new ArrayList<>();
        int best = -1;
        for (int set = 0; set < 1 << n; set++) {
            Set<List<Integer>> minds = new HashSet<>();
            if (set == 0) {
                minds.add(boxed(town.minds[house]));
            }
            for (int l : bits(set)) {
                for (List<Integer> before : reached.get(set - (1 << l))) {
                    int[] row = before.stream().mapToInt(Integer::intValue).toArray();
                    if (agrees(row, start.loaves.get(l).views, town.houses.get(house)[1])) {
                        eat(row, start.loaves.get(l).views);
                        minds.add(boxed(row));
                    }
                }
            }
            reached.add(minds);
            if (minds.stream().anyMatch(m -> m.get(topic) > 0) && (best < 0 || fewer(set, best))) {
                best = set;
            }
        }
        return best;
    }

    private static List<Integer> boxed(int[] row) {
        List<Integer> all = new ArrayList<>();
        for (int x : row) {
            all.add(x);
        }
        return all;
    }

    // ---- agree, side

    static boolean clash(int[] a, int[] b, int struck) {
        for (int t = 0; t < a.length; t++) {
            if ((struck >> t & 1) == 0 && (a[t] > 0 && b[t] < 0 || a[t] < 0 && b[t] > 0)) {
                return true;
            }
        }
        return false;
    }

    private static int clashes(List<Loaf> loaves, int set, int struck) {
        int all = 0;
        for (int i : bits(set)) {
            for (int j : bits(set)) {
                all += i < j && clash(loaves.get(i).views, loaves.get(j).views, struck) ? 1 : 0;
            }
        }
        return all;
    }

    static int[] agree(Town town) {
        List<Loaf> loaves = new Scene(town).loaves;
        int all = (1 << loaves.size()) - 1;
        int together = 0;
        for (int set = 0; set <= all; set++) {
            if (clashes(loaves, set, 0) == 0 && Integer.bitCount(set) > Integer.bitCount(together)) {
                together = set;
            }
        }
        int strike = (1 << town.topics) - 1;
        for (int struck = 0; struck < 1 << town.topics; struck++) {
            if (clashes(loaves, all, struck) == 0 && fewer(struck, strike)) {
                strike = struck;
            }
        }
        return new int[] {together, strike, clashes(loaves, all, 0)};
    }

    static int side(Town town, int loaf, int topic) {
        int[] views = new Scene(town).loaves.get(loaf).views;
        int all = 0;
        for (int h = 0; h < town.houses.size(); h++) {
            if (agrees(town.minds[h], views, town.houses.get(h)[1]) && sgn(town.minds[h][topic]) == sgn(views[topic])) {
                all += town.houses.get(h)[0];
            }
        }
        return all;
    }

    // ---- visits

    static List<Integer> step(Town town, List<Integer> signs, int hermits) {
        List<Integer> next = new ArrayList<>();
        for (int h = 0; h < signs.size(); h++) {
            int sum = 0;
            if ((hermits >> h & 1) == 0) {
                for (int v : town.visits.get(h)) {
                    sum += signs.get(v);
                }
            }
            next.add(sum == 0 ? signs.get(h) : Integer.valueOf(sgn(sum)));
        }
        return next;
    }

    static List<Integer> signs(Town town, int topic) {
        List<Integer> all = new ArrayList<>();
        for (int h = 0; h < town.houses.size(); h++) {
            all.add(sgn(town.minds[h][topic]));
        }
        return all;
    }

    private static int[] tailAndPeriod(Town town, int topic, int hermits) {
        List<List<Integer>> seen = new ArrayList<>();
        List<Integer> now = signs(town, topic);
        while (!seen.contains(now)) {
            seen.add(now);
            now = step(town, now, hermits);
        }
        int tail = seen.indexOf(now);
        return new int[] {tail, seen.size() - tail};
    }

    static int[] visits(Town town, int topic) {
        int[] both = tailAndPeriod(town, topic, 0);
        int best = -1;
        for (int set = 0; set < 1 << town.houses.size(); set++) {
            if ((best < 0 || fewer(set, best)) && tailAndPeriod(town, topic, set)[1] == 1) {
                best = set;
            }
        }
        return new int[] {both[0], both[1], best};
    }

    // ---- bakers

    static int sales(Town town, int topic, int one, int two, boolean other) {
        int all = 0;
        for (int h = 0; h < town.houses.size(); h++) {
            int toOne = Math.abs(town.minds[h][topic] - one);
            int toTwo = Math.abs(town.minds[h][topic] - two);
            if (other ? toTwo < toOne : toOne < toTwo) {
                all += town.houses.get(h)[0];
            }
        }
        return all;
    }

    static List<Integer> rests(Town town, int topic) {
        List<Integer> all = new ArrayList<>();
        for (int p = -3; p <= 3; p++) {
            for (int q = -3; q <= 3; q++) {
                boolean rest = true;
                for (int r = -3; r <= 3; r++) {
                    rest &= sales(town, topic, r, q, false) <= sales(town, topic, p, q, false);
                    rest &= sales(town, topic, p, r, true) <= sales(town, topic, p, q, true);
                }
                if (rest) {
                    all.add(7 * (p + 3) + q + 3);
                }
            }
        }
        return all;
    }

    // ---- plates

    static final class Plate {
        int topics = 3;
        int lies;
        List<int[]> crumbs = new ArrayList<>();

        Plate(Parsed parsed) {
            for (List<String> line : parsed.lines) {
                switch (line.get(0)) {
                    case "topics" -> topics = number(line.get(1));
                    case "lies" -> lies = number(line.get(1));
                    default -> crumbs.add(new int[] {KINDS.indexOf(line.get(1)), number(line.get(2)), view(line, 3)});
                }
            }
        }
    }

    /** All that fits() can tell: what, answer. */
    static Map<Integer, Long> fits(Plate plate) {
        int rows = (int) Math.pow(7, plate.topics);
        long count = 0;
        int fewest = 100;
        int[] least = {9, 9, 9, 9, 9, 9};
        int[] most = {-9, -9, -9, -9, -9, -9};
        long[][] groups = new long[36][7];
        for (int code = 0; code < rows; code++) {
            int[] row = new int[plate.topics];
            for (int t = 0, left = code; t < plate.topics; t++, left /= 7) {
                row[t] = left % 7 - 3;
            }
            int lies = 0;
            for (int[] c : plate.crumbs) {
                lies += ofKind(c[0], row[c[1]]) == c[2] ? 0 : 1;
            }
            fewest = Math.min(fewest, lies);
            if (lies > plate.lies) {
                continue;
            }
            count++;
            for (int t = 0; t < plate.topics; t++) {
                least[t] = Math.min(least[t], row[t]);
                most[t] = Math.max(most[t], row[t]);
                for (int kind : new int[] {1, 3, 4}) {
                    groups[6 * kind + t][ofKind(kind, row[t]) + 3]++;
                }
            }
        }
        Map<Integer, Long> all = new HashMap<>();
        all.put(0, count);
        all.put(1, (long) fewest);
        if (count > 0) {
            all.put(2, (long) next(plate, groups));
            for (int t = 0; t < plate.topics; t++) {
                all.put(10 + t, (long) least[t]);
                all.put(20 + t, (long) most[t]);
            }
        }
        return all;
    }

    private static int next(Plate plate, long[][] groups) {
        int best = -1;
        long size = Long.MAX_VALUE;
        for (int kind : new int[] {1, 3, 4}) {
            for (int t = 0; t < plate.topics; t++) {
                long greatest = 0;
                for (long g : groups[6 * kind + t]) {
                    greatest = Math.max(greatest, g);
                }
                if (greatest < size) {
                    size = greatest;
                    best = 6 * kind + t;
                }
            }
        }
        return best;
    }

    // ---- juries

    /** Person by person: how many of 10 to the n ways have exactly k for it. */
    private static BigInteger[] ways(int n, int a) {
        BigInteger[] ways = new BigInteger[n + 1];
        java.util.Arrays.fill(ways, BigInteger.ZERO);
        ways[0] = BigInteger.ONE;
        for (int i = 0; i < n; i++) {
            for (int k = n; k >= 0; k--) {
                BigInteger no = ways[k].multiply(BigInteger.valueOf(10 - a));
                BigInteger yes = k == 0 ? BigInteger.ZERO : ways[k - 1].multiply(BigInteger.valueOf(a));
                ways[k] = no.add(yes);
            }
        }
        return ways;
    }

    static BigInteger atLeast(int n, int k, int a) {
        BigInteger[] ways = ways(n, a);
        BigInteger all = BigInteger.ZERO;
        for (int i = k; i <= n; i++) {
            all = all.add(ways[i]);
        }
        return all;
    }

    static long[] jury(int n, int k, int a) {
        BigInteger part = atLeast(n, k, a);
        BigInteger whole = BigInteger.TEN.pow(n);
        BigInteger gcd = part.gcd(whole);
        return new long[] {part.divide(gcd).longValueExact(), whole.divide(gcd).longValueExact()};
    }

    static int bound(int n, int a, int b) {
        int best = -1;
        BigInteger least = null;
        for (int k = 0; k <= n + 1; k++) {
            BigInteger errors = BigInteger.TEN.pow(n).subtract(atLeast(n, k, a)).add(atLeast(n, k, b));
            if (least == null || errors.compareTo(least) < 0) {
                least = errors;
                best = k;
            }
        }
        return best;
    }

    // ---- days by a seed

    static Scene drawn(Town town, int seed, int n) {
        Scene scene = new Scene(town);
        long[] x = {seed & 0xffffffffL};
        for (int i = 0; i < n; i++) {
            int sort = draw(x, 6);
            int houses = town.houses.size();
            if (sort == 0 || sort == 1) {
                int oven = draw(x, 4);
                int topic = draw(x, town.topics);
                int view = draw(x, 7) - 3;
                scene.go(new int[] {0, oven, topic, view});
            } else if (sort == 2) {
                int kind = draw(x, 5);
                int oven = draw(x, 4);
                scene.go(new int[] {1, kind, oven, -8});
            } else if (sort == 3 && houses > 0) {
                int house = draw(x, houses);
                int loaf = 0;
                while (loaf < scene.loaves.size() && !scene.mayEat(house, loaf)) {
                    loaf++;
                }
                scene.go(new int[] {2, house, loaf, -8});
            } else if (sort == 4 && houses > 0) {
                int house = draw(x, houses);
                int oven = draw(x, 4);
                scene.go(new int[] {4, house, oven, -8});
            } else if (sort == 5) {
                scene.go(new int[] {5, -8, -8, -8});
            }
        }
        return scene;
    }

    private static int draw(long[] x, int n) {
        x[0] = (x[0] * 1103515245L + 12345L) & 0xffffffffL;
        return (int) ((x[0] >> 16) % n);
    }

    // ---- apart, factions, pivots

    static int apart(Town town, int a, int b) {
        int all = 0;
        for (int t = 0; t < town.topics; t++) {
            all += Math.abs(town.minds[a][t] - town.minds[b][t]);
        }
        return all;
    }

    /** Of each house its faction's bits, by merging. */
    static int[] factions(Town town, int n) {
        int count = town.houses.size();
        int[] of = new int[count];
        for (int h = 0; h < count; h++) {
            of[h] = 1 << h;
        }
        for (int a = 0; a < count; a++) {
            for (int b = 0; b < count; b++) {
                if (apart(town, a, b) <= n) {
                    int both = of[a] | of[b];
                    for (int h : bits(both)) {
                        of[h] = both;
                    }
                }
            }
        }
        return of;
    }

    static int pivots(Town town, int topic) {
        int with = sgn(tally(town, town.minds, topic));
        int all = 0;
        for (int h = 0; h < town.houses.size(); h++) {
            int[][] minds = new int[8][];
            for (int g = 0; g < 8; g++) {
                minds[g] = g == h ? new int[6] : town.minds[g];
            }
            if (sgn(tally(town, minds, topic)) != with) {
                all |= 1 << h;
            }
        }
        return all;
    }
}
