/** Boundary cases of what was told, asked back: promises 6 to 9 and 20; of none, one, and as many as may be. */
public final class ToldEdgesTest {
    private static final Probe P = new Probe();
    private static final String[] KINDS = {"rye", "bun", "crust", "toast", "wafer"};

    public static void main(String[] args) {
        emptyTown();
        fullHouses();
        fullVisits();
        fullMinds();
        fullSaid();
        fullLoaves();
        secondTown();
        townWhats();
        emptyDays();
        fullDays();
        deedNumbers();
        secondDays();
        emptyPlate();
        fullPlate();
        crumbsOfKinds();
        P.end("ToldEdgesTest");
    }

    private static void emptyTown() {
        BreadTalk x = Probe.withTown("");
        int[] sizes = {3, 3, 0, 0, 0};
        for (int what = -1; what < 100; what++) {
            int want = what >= 0 && what < 5 ? sizes[what] : -1;
            P.due("Promise 6: of an empty town, what " + what, x.town(0, what), want);
        }
        P.due("Promise 7: of an empty town", x.mind(0, 0, 0), -9);
        P.due("Promise 8: of an empty town", x.said(0, 0, 0), -9);
        P.due("Promise 6: there is one alone", x.town(1, 0), -1);
        for (String edge : new String[] {"topics 1;life 1;", "topics 6;life 9;"}) {
            BreadTalk y = Probe.withTown(edge);
            P.due("Promise 6: " + edge, y.town(0, 0), edge.charAt(7) - '0');
            P.due("Promise 6: " + edge, y.town(0, 1), edge.charAt(14) - '0');
        }
    }

    private static void fullHouses() {
        StringBuilder text = new StringBuilder();
        for (int h = 0; h < 8; h++) {
            text.append("house ").append(h == 7 ? 9 : h + 1).append(' ').append(h == 7 ? 9 : h).append(';');
        }
        BreadTalk x = Probe.withTown(text.toString());
        P.due("Promise 6: eight houses", x.town(0, 2), 8);
        for (int h = 0; h < 10; h++) {
            P.due("Promise 6: VOTES of house " + h, x.town(0, 10 + h), h < 7 ? h + 1 : h == 7 ? 9 : -1);
            P.due("Promise 6: STUBBORN of house " + h, x.town(0, 20 + h), h < 7 ? h : h == 7 ? 9 : -1);
            P.due("Promise 6: VISITS of house " + h, x.town(0, 30 + h), h < 8 ? 0 : -1);
            P.due("Promise 7: MIND of house " + h, x.mind(0, h, 0), h < 8 ? 0 : -9);
        }
        P.due("Promise 6: no loaf", x.town(0, 40), -1);
        P.due("Promise 6: no loaf", x.town(0, 50), -1);
    }

    /** Each house visits all seven others. */
    private static void fullVisits() {
        for (int h = 0; h < 8; h++) {
            StringBuilder text = new StringBuilder("house 1 0;".repeat(8));
            for (int other = 0; other < 8; other++) {
                text.append(other == h ? "" : "visit " + h + " " + other + ";");
            }
            BreadTalk x = Probe.withTown(text.toString());
            for (int who = 0; who < 8; who++) {
                P.due("Promise 6: VISITS of " + who + ", where " + h + " goes to all", x.town(0, 30 + who), who == h ? 255 - (1 << h) : 0);
            }
        }
    }

    private static void fullMinds() {
        BreadTalk x = Probe.withTown("topics 6;" + "house 1 0;".repeat(8) + "mind 7 5 for 3;mind 0 0 against 3;mind 7 0 for 1;mind 0 5 for 2;");
        for (int h = -1; h < 10; h++) {
            for (int t = -1; t < 8; t++) {
                boolean there = h >= 0 && h < 8 && t >= 0 && t < 6;
                int told = h == 7 && t == 5 ? 3 : h == 0 && t == 0 ? -3 : h == 7 && t == 0 ? 1 : h == 0 && t == 5 ? 2 : 0;
                P.due("Promise 7: mind(0, " + h + ", " + t + ")", x.mind(0, h, t), there ? told : -9);
            }
        }
        for (int topics = 1; topics <= 6; topics++) {
            BreadTalk y = Probe.withTown("house 1 0;topics " + topics + ";");
            P.due("Promise 7: the last of " + topics, y.mind(0, 0, topics - 1), 0);
            P.due("Promise 7: behind the last of " + topics, y.mind(0, 0, topics), -9);
        }
    }

    private static void fullSaid() {
        StringBuilder text = new StringBuilder("topics 6;");
        for (int k = 0; k < 12; k++) {
            text.append("said ").append(k % 4).append(' ').append(k % 6).append(k % 2 == 0 ? " for " : " against ").append(k / 3).append(';');
        }
        BreadTalk x = Probe.withTown(text.toString());
        P.due("Promise 6: twelve were said", x.town(0, 3), 12);
        for (int k = -1; k < 14; k++) {
            boolean there = k >= 0 && k < 12;
            int[] due = {k % 4, k % 6, k % 2 == 0 ? k / 3 : -(k / 3)};
            for (int what = -1; what < 5; what++) {
                boolean asked = there && what >= 0 && what < 3;
                P.due("Promise 8: said(0, " + k + ", " + what + ")", x.said(0, k, what), asked ? due[what] : -9);
            }
        }
    }

    private static void fullLoaves() {
        StringBuilder text = new StringBuilder();
        for (int l = 0; l < 8; l++) {
            text.append("loaf ").append(KINDS[l % 5]).append(' ').append(3 - l % 4).append(';');
        }
        BreadTalk x = Probe.withTown(text.toString());
        P.due("Promise 6: eight loaves", x.town(0, 4), 8);
        for (int l = 0; l < 10; l++) {
            P.due("Promise 6: KIND of loaf " + l, x.town(0, 40 + l), l < 8 ? l % 5 : -1);
            P.due("Promise 6: OVEN of loaf " + l, x.town(0, 50 + l), l < 8 ? 3 - l % 4 : -1);
        }
        P.due("Promise 6: no house", x.town(0, 10), -1);
    }

    private static void secondTown() {
        BreadTalk x = Probe.withTown("life 1;house 1 1;mind 0 0 for 1;said 0 0 for 1;loaf rye 0;");
        P.due("Promise 6: no second one", x.town(1, 1), -1);
        Probe.tell(x, 0, -1, "life 2;house 2 2;mind 0 0 for 2;said 1 1 for 2;loaf bun 1;");
        for (int town = 0; town < 2; town++) {
            P.due("Promise 6: each has its own", x.town(town, 1), town + 1);
            P.due("Promise 6: each has its own", x.town(town, 10), town + 1);
            P.due("Promise 6: each has its own", x.town(town, 40), town);
            P.due("Promise 7: each has its own", x.mind(town, 0, 0), town + 1);
            P.due("Promise 8: each has its own", x.said(town, 0, 2), town + 1);
        }
        P.due("Promise 6: no third one", x.town(2, 1), -1);
        P.due("Promise 7: no third one", x.mind(2, 0, 0), -9);
        P.due("Promise 8: no third one", x.said(2, 0, 0), -9);
    }

    /** What beside the last of each row is another one's, or none. */
    private static void townWhats() {
        BreadTalk x = Probe.withTown("house 1 2;".repeat(8) + "loaf toast 3;".repeat(8));
        for (int what = -3; what < 130; what++) {
            int row = what / 10;
            boolean there = what >= 10 && row <= 5 && what % 10 < 8;
            int[] due = {0, 1, 2, 0, 3, 3};
            int sizes = what == 0 || what == 1 ? 3 : what == 2 || what == 4 ? 8 : what == 3 ? 0 : -1;
            P.due("Promise 6: town(0, " + what + ") of a full one", x.town(0, what), there ? due[row] : what < 10 ? sizes : -1);
        }
    }

    private static void emptyDays() {
        BreadTalk x = Probe.withDays("", "");
        P.due("Promise 9: no deeds", x.deed(0, -1, 0), 0);
        for (int what = 1; what < 4; what++) {
            P.due("Promise 9: how many is what 0", x.deed(0, -1, what), -9);
        }
        P.due("Promise 9: no first deed", x.deed(0, 0, 0), -9);
        P.due("Promise 9: no second days", x.deed(1, -1, 0), -9);
    }

    private static void fullDays() {
        StringBuilder text = new StringBuilder();
        for (int k = 0; k < 40; k++) {
            text.append("eat ").append(k % 8).append(' ').append(k % 16).append(';');
        }
        BreadTalk x = Probe.withDays("", text.toString());
        P.due("Promise 9: forty deeds", x.deed(0, -1, 0), 40);
        for (int k = -2; k < 43; k++) {
            boolean there = k >= 0 && k < 40;
            int[] due = {2, k % 8, k % 16, -8};
            for (int what = -1; what < 6; what++) {
                boolean asked = there && what >= 0 && what < 4;
                int want = k == -1 && what == 0 ? 40 : asked ? due[what] : -9;
                P.due("Promise 9: deed(0, " + k + ", " + what + ")", x.deed(0, k, what), want);
            }
        }
    }

    /** Of each sort of deed its numbers at both ends, -8 where it has none. */
    private static void deedNumbers() {
        String[] texts = {"say 0 0 for 0;", "say 3 5 against 3;", "say 3 5 for 3;", "bake rye 0;", "bake wafer 3;", "eat 0 0;", "eat 7 15;",
            "butter 0 0;", "butter 7 15;", "talk 0 0;", "talk 7 3;", "night;"};
        int[][] due = {{0, 0, 0, 0}, {0, 3, 5, -3}, {0, 3, 5, 3}, {1, 0, 0, -8}, {1, 4, 3, -8}, {2, 0, 0, -8}, {2, 7, 15, -8},
            {3, 0, 0, -8}, {3, 7, 15, -8}, {4, 0, 0, -8}, {4, 7, 3, -8}, {5, -8, -8, -8}};
        for (int i = 0; i < texts.length; i++) {
            // Behind another deed, so that nothing of its numbers is left.
            BreadTalk x = Probe.withDays("", "say 2 4 against 2;" + texts[i]);
            for (int what = 0; what < 4; what++) {
                P.due("Promise 9: what " + what + " of " + texts[i], x.deed(0, 1, what), due[i][what]);
            }
            P.due("Promise 9: what 4 of " + texts[i], x.deed(0, 1, 4), -9);
            P.due("Promise 9: what -1 of " + texts[i], x.deed(0, 1, -1), -9);
        }
        for (int kind = 0; kind < 5; kind++) {
            P.due("Promise 9: KIND " + kind, Probe.withDays("", "bake " + KINDS[kind] + " 1;").deed(0, 0, 1), kind);
        }
    }

    private static void secondDays() {
        BreadTalk x = Probe.withDays("", "night;");
        Probe.tell(x, 1, -1, "talk 1 1;talk 2 2;");
        P.due("Promise 9: each has its own", x.deed(0, -1, 0), 1);
        P.due("Promise 9: each has its own", x.deed(1, -1, 0), 2);
        P.due("Promise 9: each has its own", x.deed(0, 0, 0), 5);
        P.due("Promise 9: each has its own", x.deed(1, 1, 1), 2);
        P.due("Promise 9: no third", x.deed(2, -1, 0), -9);
    }

    private static void emptyPlate() {
        BreadTalk x = Probe.withPlate("");
        for (int what = -1; what < 5; what++) {
            P.due("Promise 20: of an empty plate, what " + what, x.plate(0, -1, what), what == 0 ? 3 : what == 1 || what == 2 ? 0 : -9);
            P.due("Promise 20: no first crumb, what " + what, x.plate(0, 0, what), -9);
        }
        P.due("Promise 20: no second plate", x.plate(1, -1, 0), -9);
        BreadTalk y = Probe.withPlate("topics 6;lies 9;");
        P.due("Promise 20: most topics", y.plate(0, -1, 0), 6);
        P.due("Promise 20: most lies", y.plate(0, -1, 1), 9);
        Probe.tell(y, 2, -1, "topics 1;lies 0;");
        P.due("Promise 20: fewest topics", y.plate(1, -1, 0), 1);
        P.due("Promise 20: fewest lies", y.plate(1, -1, 1), 0);
        P.due("Promise 20: the first one stays", y.plate(0, -1, 1), 9);
        P.due("Promise 20: no third plate", y.plate(2, -1, 0), -9);
    }

    private static void fullPlate() {
        String[] kinds = {"bun", "toast", "wafer"};
        int[] numbers = {1, 3, 4};
        StringBuilder text = new StringBuilder("topics 6;");
        for (int k = 0; k < 12; k++) {
            text.append("crumb ").append(kinds[k % 3]).append(' ').append(k % 6).append(k < 6 ? " for " : " against ").append(k % 4).append(';');
        }
        BreadTalk x = Probe.withPlate(text.toString());
        P.due("Promise 20: twelve crumbs", x.plate(0, -1, 2), 12);
        for (int k = -2; k < 15; k++) {
            boolean there = k >= 0 && k < 12;
            for (int what = -1; what < 5 && k != -1; what++) {
                int due = what == 0 ? numbers[Math.abs(k) % 3] : what == 1 ? k % 6 : k < 6 ? k % 4 : -(k % 4);
                P.due("Promise 20: plate(0, " + k + ", " + what + ")", x.plate(0, k, what), there && what >= 0 && what < 3 ? due : -9);
            }
        }
    }

    private static void crumbsOfKinds() {
        for (int kind = 0; kind < 5; kind++) {
            BreadTalk x = new BreadTalk();
            boolean canBe = kind == 1 || kind == 3 || kind == 4;
            P.due("Promise 4: a crumb of " + KINDS[kind], Probe.tell(x, 2, -1, "crumb " + KINDS[kind] + " 0 for 1;"), canBe ? 0 : -1);
            P.due("Promise 20: a crumb of " + KINDS[kind], x.plate(0, 0, 0), canBe ? kind : -9);
        }
    }
}
