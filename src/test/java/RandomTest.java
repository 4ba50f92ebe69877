import java.util.List;
import java.util.Map;
import java.util.Random;

/** Random texts, good and broken ones: every answer is compared with Slow's. The seeds are fixed. */
public final class RandomTest {
    private static final Probe P = new Probe();
    private static final Random R = new Random(20261118);

    public static void main(String[] args) {
        for (int i = 0; i < 4000; i++) {
            brokenText(i % 3);
        }
        for (int i = 0; i < 400; i++) {
            townAnswers(townText(i % 7 == 0));
        }
        for (int i = 0; i < 600; i++) {
            townAnswers(livelyTown(1 + R.nextInt(3), 3 + R.nextInt(4)));
        }
        for (int i = 0; i < 40; i++) {
            townAnswers(livelyTown(2, 8));
            townAnswers(livelyTown(8, 3 + R.nextInt(2)));
        }
        for (int i = 0; i < 1500; i++) {
            swayAnswers(stubbornHouse());
        }
        for (int i = 0; i < 300; i++) {
            daysAnswers(townText(i % 7 == 0), daysText());
        }
        for (int i = 0; i < 200; i++) {
            plateAnswers(plateText(i % 20 == 0 ? 6 : 1 + R.nextInt(4)));
        }
        juries();
        P.end("RandomTest");
    }

    // ---- texts

    private static String view() {
        return (R.nextBoolean() ? "for " : "against ") + R.nextInt(4);
    }

    private static String townText(boolean full) {
        int topics = full ? 6 : 1 + R.nextInt(4);
        int houses = full ? 8 : R.nextInt(6);
        int loaves = full ? 8 : R.nextInt(7);
        StringBuilder s = new StringBuilder("topics " + topics + ";");
        if (R.nextBoolean()) {
            s.append("life ").append(1 + R.nextInt(4)).append(';');
        }
        for (int i = 0; i < houses; i++) {
            s.append("house ").append(1 + R.nextInt(9)).append(' ').append(R.nextInt(R.nextInt(3) == 0 ? 10 : 3)).append(';');
        }
        for (int i = R.nextInt(full ? 6 : 13); i > 0; i--) {
            s.append("said ").append(R.nextInt(4)).append(' ').append(R.nextInt(topics)).append(' ').append(view()).append(';');
        }
        for (int i = 0; i < loaves; i++) {
            s.append("loaf ").append(Slow.KINDS.get(R.nextInt(5))).append(' ').append(R.nextInt(4)).append(';');
        }
        for (int i = 0; i < 30 && houses > 0 && s.length() < 580; i++) {
            int house = R.nextInt(houses);
            int other = R.nextInt(houses);
            if (R.nextBoolean()) {
                s.append("mind ").append(house).append(' ').append(R.nextInt(topics)).append(' ').append(view()).append(';');
            } else if (house != other) {
                s.append("visit ").append(house).append(' ').append(other).append(';');
            }
        }
        return s.length() <= 600 ? s.toString() : townText(full);
    }

    /** Houses that give way, with minds on both sides: here sets of several loaves decide. */
    private static String livelyTown(int houses, int loaves) {
        int topics = houses > 4 ? 1 : 1 + R.nextInt(3);
        StringBuilder s = new StringBuilder("topics " + topics + ";");
        for (int h = 0; h < houses; h++) {
            s.append("house ").append(1 + R.nextInt(9)).append(' ').append(R.nextInt(3)).append(';');
            for (int t = 0; t < topics; t++) {
                s.append("mind ").append(h).append(' ').append(t).append(R.nextInt(3) == 0 ? " for " : " against ").append(R.nextInt(3)).append(';');
                int other = R.nextInt(houses);
                s.append(other == h ? "" : "visit " + h + " " + other + ";");
            }
        }
        for (int i = 0; i < 12 && s.length() < 580 - 13 * loaves; i++) {
            String way = R.nextInt(4) == 0 ? " against " : " for ";
            s.append("said ").append(R.nextInt(4)).append(' ').append(R.nextInt(topics)).append(way).append(R.nextInt(4)).append(';');
        }
        for (int i = 0; i < loaves; i++) {
            s.append("loaf ").append(Slow.KINDS.get(R.nextInt(5))).append(' ').append(R.nextInt(4)).append(';');
        }
        return s.toString();
    }

    /** One house and many loaves: long ways to its vote. */
    private static String stubbornHouse() {
        int topics = 3 + R.nextInt(4);
        StringBuilder s = new StringBuilder("topics " + topics + ";house 1 " + R.nextInt(4) + ";");
        for (int t = 0; t < topics; t++) {
            s.append("mind 0 ").append(t).append(R.nextBoolean() ? " for " : " against ").append(R.nextInt(4)).append(';');
        }
        for (int i = 0; i < 8; i++) {
            s.append("loaf ").append(Slow.KINDS.get(R.nextInt(5))).append(' ').append(R.nextInt(4)).append(';');
        }
        for (int i = 0; i < 12 && s.length() < 580; i++) {
            String way = R.nextInt(3) == 0 ? " against " : " for ";
            s.append("said ").append(R.nextInt(4)).append(' ').append(R.nextInt(topics)).append(way).append(R.nextInt(4)).append(';');
        }
        return s.toString();
    }

    private static String daysText() {
        StringBuilder s = new StringBuilder();
        for (int i = R.nextInt(41); i > 0; i--) {
            switch (R.nextInt(8)) {
                case 0 -> s.append("say ").append(R.nextInt(4)).append(' ').append(R.nextInt(R.nextInt(9) == 0 ? 6 : 2)).append(' ').append(view());
                case 1, 2 -> s.append("bake ").append(Slow.KINDS.get(R.nextInt(5))).append(' ').append(R.nextInt(4));
                case 3 -> s.append("night");
                case 4, 5 -> s.append("talk ").append(R.nextInt(R.nextInt(9) == 0 ? 8 : 2)).append(' ').append(R.nextInt(4));
                default -> s.append(R.nextBoolean() ? "eat " : "butter ").append(R.nextInt(3)).append(' ').append(R.nextInt(8));
            }
            s.append(';');
            if (s.length() > 570) {
                break;
            }
        }
        return s.toString();
    }

    private static String plateText(int topics) {
        StringBuilder s = new StringBuilder("topics " + topics + ";");
        if (R.nextBoolean()) {
            s.append("lies ").append(R.nextInt(R.nextBoolean() ? 10 : 3)).append(';');
        }
        for (int i = R.nextInt(13); i > 0; i--) {
            String kind = List.of("bun", "toast", "wafer").get(R.nextInt(3));
            s.append("crumb ").append(kind).append(' ').append(R.nextInt(topics)).append(' ').append(view()).append(';');
        }
        return s.toString();
    }

    private static String textOf(int sort) {
        return sort == 0 ? townText(R.nextInt(5) == 0) : sort == 1 ? daysText() : plateText(1 + R.nextInt(6));
    }

    private static void brokenText(int sort) {
        StringBuilder s = new StringBuilder(textOf(R.nextInt(30) == 0 ? (sort + 1) % 3 : sort));
        for (int i = R.nextInt(4); i > 0; i--) {
            int at = R.nextInt(s.length() + 1);
            String piece = List.of(" ", "\n", ";", "0", "1", "7", "9", "12", "a", "x", "for", "house 1 1;", "said 0 0 for 1;",
                    "loaf rye 0;", "night;", "crumb bun 0 for 1;", "topics 2;", "topics 9;", "A", "\t", "\0", "\u00ff").get(R.nextInt(22));
            switch (R.nextInt(3)) {
                case 0 -> s.insert(at, piece);
                case 1 -> {
                    int line = s.lastIndexOf(";", at) + 1;
                    s.insert(line, piece);
                }
                default -> s.delete(at, Math.min(s.length(), at + 1 + R.nextInt(3)));
            }
        }
        if (R.nextInt(10) == 0) {
            s.setLength(R.nextInt(s.length() + 1));
        }
        String text = s.length() <= 600 ? s.toString() : s.substring(0, 600);
        Slow.Parsed due = Slow.parse(sort, text);
        BreadTalk x = new BreadTalk();
        P.due("text " + sort + ": " + text, Probe.tell(x, sort, -1, text), due.fault == 0 ? 0 : -1);
        P.due("fault of " + sort + ": " + text, x.fault(0), due.fault);
        P.due("place of " + sort + ": " + text, x.fault(1), due.place);
        P.due("count " + sort + ": " + text, x.count(sort), due.fault == 0 ? 1 : 0);
    }

    // ---- answers

    /** A town in the place of a full one, behind days by a seed: nothing of them may be left. */
    private static BreadTalk usedFor(String text) {
        BreadTalk x = Probe.withTown(townText(true));
        x.drawn(0, R.nextInt(), 60, 1);
        P.due("in the place of another: " + text, Probe.tell(x, 0, 0, text), 0);
        x.drawn(0, R.nextInt(), 60, 1);
        return x;
    }

    private static void townAnswers(String text) {
        Slow.Town town = new Slow.Town(Slow.parse(0, text));
        BreadTalk x = usedFor(text);
        told(x, town, text);
        int houses = town.houses.size();
        int[] agree = Slow.agree(town);
        for (int what = 0; what < 3; what++) {
            P.due("agree " + what + " of " + text, x.agree(0, what), agree[what]);
        }
        for (int t = 0; t < town.topics; t++) {
            topicAnswers(x, town, t, text);
        }
        for (int a = 0; a < houses; a++) {
            for (int b = 0; b < houses; b++) {
                P.due("apart " + a + " " + b + " of " + text, x.apart(0, a, b), Slow.apart(town, a, b));
            }
        }
        for (int n = 0; n <= 36; n++) {
            int[] of = Slow.factions(town, n);
            P.due("factions " + n + " of " + text, x.factions(0, n, -1), java.util.Arrays.stream(of).distinct().count());
            int h = houses == 0 ? 0 : R.nextInt(houses);
            P.due("faction " + n + " of " + text, x.factions(0, n, h), houses == 0 ? -1 : of[h]);
        }
        for (int i = 0; i < 3; i++) {
            int seed = R.nextInt();
            int n = R.nextInt(61);
            Map<Integer, Integer> all = Slow.drawn(town, seed, n).all();
            for (int what = 0; what < 430; what++) {
                P.due("drawn " + seed + " " + n + " " + what + " of " + text, x.drawn(0, seed, n, what), all.getOrDefault(what, -1000));
            }
        }
    }

    private static void told(BreadTalk x, Slow.Town town, String text) {
        int[] sizes = {town.topics, town.life, town.houses.size(), town.said.size(), town.loaves.size()};
        for (int i = 0; i < sizes.length; i++) {
            P.due("town " + i + " of " + text, x.town(0, i), sizes[i]);
        }
        for (int h = 0; h < 10; h++) {
            boolean there = h < town.houses.size();
            P.due("votes of " + text, x.town(0, 10 + h), there ? town.houses.get(h)[0] : -1);
            P.due("stubborn of " + text, x.town(0, 20 + h), there ? town.houses.get(h)[1] : -1);
            int bits = there ? town.visits.get(h).stream().mapToInt(v -> 1 << v).sum() : -1;
            P.due("visits of " + text, x.town(0, 30 + h), bits);
            for (int t = 0; t < 7; t++) {
                P.due("mind of " + text, x.mind(0, h, t), there && t < town.topics ? town.minds[h][t] : -9);
            }
        }
        for (int l = 0; l < 10; l++) {
            boolean there = l < town.loaves.size();
            P.due("kind of " + text, x.town(0, 40 + l), there ? town.loaves.get(l)[0] : -1);
            P.due("oven of " + text, x.town(0, 50 + l), there ? town.loaves.get(l)[1] : -1);
        }
        for (int k = 0; k < 13; k++) {
            for (int what = 0; what < 3; what++) {
                P.due("said of " + text, x.said(0, k, what), k < town.said.size() ? town.said.get(k)[what] : -9);
            }
        }
    }

    private static void topicAnswers(BreadTalk x, Slow.Town town, int t, String text) {
        int houses = town.houses.size();
        String of = " of topic " + t + " of " + text;
        if (Math.pow(houses + 1, town.loaves.size()) < 20000) {
            int[] shares = Slow.shares(town, t);
            for (int what = 0; what < 3; what++) {
                P.due("shares " + what + of, x.shares(0, t, what), shares[what]);
            }
        }
        for (int l = 0; l < town.loaves.size(); l++) {
            P.due("side " + l + of, x.side(0, l, t), Slow.side(town, l, t));
        }
        int[] visits = Slow.visits(town, t);
        for (int what = 0; what < 3; what++) {
            P.due("visits " + what + of, x.visits(0, t, what), visits[what]);
        }
        List<Integer> signs = Slow.signs(town, t);
        for (int n = 0; n < 100; n++) {
            for (int h = 0; h < houses && (n < 20 || n > 96); h++) {
                P.due("sign " + h + " " + n + of, x.sign(0, t, h, n), signs.get(h));
            }
            signs = Slow.step(town, signs, 0);
        }
        for (int p = -3; p <= 3; p++) {
            int q = R.nextInt(7) - 3;
            P.due("sales " + p + " " + q + of, x.sales(0, t, p, q, false), Slow.sales(town, t, p, q, false));
            P.due("sales " + p + " " + q + of, x.sales(0, t, p, q, true), Slow.sales(town, t, p, q, true));
        }
        List<Integer> rests = Slow.rests(town, t);
        P.due("rests" + of, x.rest(0, t, -1), rests.size());
        for (int k = 0; k <= rests.size(); k++) {
            P.due("rest " + k + of, x.rest(0, t, k), k < rests.size() ? rests.get(k) : -1);
        }
        P.due("pivots" + of, x.pivots(0, t), Slow.pivots(town, t));
        for (int h = 0; h < houses; h++) {
            int sway = Slow.sway(town, h, t);
            P.due("sway " + h + of, x.sway(0, h, t, true), sway);
            P.due("sway " + h + of, x.sway(0, h, t, false), sway < 0 ? -1 : Integer.bitCount(sway));
            int set = R.nextInt(1 << town.loaves.size());
            int[] feast = Integer.bitCount(set) > 6 ? new int[] {-1000, -1000, -1000} : Slow.feast(town, h, set, t);
            for (int what = 0; what < 3; what++) {
                P.due("feast " + h + " " + set + " " + what + of, x.feast(0, h, set, t, what), feast[what]);
            }
        }
    }

    private static void swayAnswers(String text) {
        Slow.Town town = new Slow.Town(Slow.parse(0, text));
        BreadTalk x = usedFor(text);
        for (int t = 0; t < town.topics; t++) {
            if (town.minds[0][t] <= 0) {
                P.due("sway on " + t + " of " + text, x.sway(0, 0, t, true), Slow.sway(town, 0, t));
            }
        }
    }

    private static void daysAnswers(String townText, String daysText) {
        Slow.Town town = new Slow.Town(Slow.parse(0, townText));
        List<int[]> deeds = Slow.deeds(Slow.parse(1, daysText));
        BreadTalk x = Probe.withDays(townText, daysText);
        String of = " of " + townText + " / " + daysText;
        P.due("deeds" + of, x.deed(0, -1, 0), deeds.size());
        for (int k = 0; k < deeds.size(); k++) {
            for (int what = 0; what < 4; what++) {
                P.due("deed " + k + " " + what + of, x.deed(0, k, what), deeds.get(k)[what]);
            }
        }
        Slow.Scene scene = new Slow.Scene(town);
        int stop = 0;
        boolean goes = true;
        while (goes) {
            Map<Integer, Integer> all = scene.all();
            for (int what = 0; what < 430; what++) {
                P.due("state " + stop + " " + what + of, x.state(0, 0, stop, what), all.getOrDefault(what, -1000));
            }
            goes = stop < deeds.size() && scene.go(deeds.get(stop));
            stop += goes ? 1 : 0;
        }
        P.due("stop" + of, x.stop(0, 0), stop);
        P.due("state behind stop" + of, x.state(0, 0, stop + 1, 0), -1000);
    }

    private static void plateAnswers(String text) {
        Slow.Plate plate = new Slow.Plate(Slow.parse(2, text));
        BreadTalk x = Probe.withPlate(text);
        int[] sizes = {plate.topics, plate.lies, plate.crumbs.size()};
        for (int what = 0; what < 3; what++) {
            P.due("plate " + what + " of " + text, x.plate(0, -1, what), sizes[what]);
            for (int k = 0; k <= plate.crumbs.size(); k++) {
                P.due("crumb " + k + " of " + text, x.plate(0, k, what), k < plate.crumbs.size() ? plate.crumbs.get(k)[what] : -9);
            }
        }
        Map<Integer, Long> all = Slow.fits(plate);
        for (int what = -1; what < 32; what++) {
            P.due("fits " + what + " of " + text, x.fits(0, what), all.getOrDefault(what, -9L));
        }
    }

    private static void juries() {
        BreadTalk x = new BreadTalk();
        for (int n = 1; n <= 12; n++) {
            for (int a = 0; a <= 10; a++) {
                for (int k = 0; k <= 13; k++) {
                    long[] due = Slow.jury(n, k, a);
                    P.due("jury " + n + " " + k + " " + a, x.jury(n, k, a, false), due[0]);
                    P.due("jury " + n + " " + k + " " + a, x.jury(n, k, a, true), due[1]);
                }
                for (int b = 0; b <= 10; b++) {
                    P.due("bound " + n + " " + a + " " + b, x.bound(n, a, b), Slow.bound(n, a, b));
                }
            }
        }
    }
}
