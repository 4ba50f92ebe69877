/** Boundary cases of what a town as it begins is asked: promises 12 to 19 and 25 to 28; answers worked out by hand. */
public final class TownEdgesTest {
    private static final Probe P = new Probe();
    private static final String LIFTS = "topics 2;house 1 0;house 1 0;house 1 9;mind 0 0 against 3;mind 0 1 for 3;mind 1 0 against 3;mind 1 1 for 3;"
            + "mind 2 0 against 1;said 0 0 for 3;said 0 1 for 3;";

    public static void main(String[] args) {
        sharesOfNothing();
        sharesAboveNought();
        sharesOfAllLoaves();
        sharesTheLeast();
        sharesFewerAheadOfLess();
        sharesOfTheLastTopic();
        stubbornAtTheEdge();
        sharesByNumbers();
        feastOfNone();
        feastOfMost();
        feastLeavesAll();
        feastAtTheEnds();
        agreeOfFew();
        agreeOfMany();
        strikeEdges();
        clashOfSixTopics();
        sideEdges();
        visitsOfNobody();
        visitsChain();
        visitsRings();
        visitsEven();
        hermits();
        signSteps();
        salesEdges();
        restsOfOneHouse();
        restsOfNobody();
        apartEdges();
        factionsEdges();
        factionsChain();
        factionsByTurns();
        pivotsEdges();
        swayEdges();
        swayOfMany();
        swayTheLeast();
        P.end("TownEdgesTest");
    }

    private static String view(int v) {
        return v < 0 ? " against " + -v : " for " + v;
    }

    private static void shares(String name, String town, int topic, int greatest, int fewest, int which) {
        BreadTalk x = Probe.withTown(town);
        P.due("Promise 12: " + name + ": the greatest", x.shares(0, topic, 0), greatest);
        P.due("Promise 12: " + name + ": the fewest", x.shares(0, topic, 1), fewest);
        P.due("Promise 12: " + name + ": which", x.shares(0, topic, 2), which);
    }

    private static void sharesOfNothing() {
        shares("nothing", "", 0, 0, -1, -1);
        shares("loaves alone", "said 0 0 for 3;loaf wafer 0;", 0, 0, -1, -1);
        shares("a house alone", "house 9 0;", 0, 0, -1, -1);
        shares("a house that is for it", "house 9 0;mind 0 0 for 1;", 0, 9, 0, 0);
        shares("a house that is against it", "house 9 0;mind 0 0 against 1;", 0, -9, -1, -1);
        shares("the last topic", "topics 6;house 9 9;mind 0 5 for 1;", 5, 9, 0, 0);
        StringBuilder all = new StringBuilder("house 9 9;".repeat(8));
        for (int h = 0; h < 8; h++) {
            all.append("mind ").append(h).append(" 0 against 1;");
        }
        shares("all are against it", all + "said 0 0 for 3;" + "loaf wafer 0;".repeat(8), 0, -72, -1, -1);
    }

    /** TALLY 0 is not above 0. */
    private static void sharesAboveNought() {
        String even = "house 2 9;house 2 9;mind 0 0 for 1;mind 1 0 against 1;";
        shares("even", even, 0, 0, -1, -1);
        shares("even, and one who is open", even + "house 1 0;said 0 0 for 1;loaf wafer 0;", 0, 1, 1, 1);
        shares("by an open one to 0", "house 1 9;house 1 9;mind 0 0 against 1;said 0 0 for 1;loaf wafer 0;", 0, 0, -1, -1);
    }

    /** Each of two houses needs four loaves; both are needed. */
    private static void sharesOfAllLoaves() {
        shares("eight loaves, all needed", LIFTS + "loaf wafer 0;".repeat(8), 0, 1, 8, 255);
        shares("seven loaves are too few", LIFTS + "loaf wafer 0;".repeat(7), 0, 0, -1, -1);
        shares("no loaves", LIFTS, 0, -3, -1, -1);
    }

    private static void sharesTheLeast() {
        String open = "house 1 0;said 1 0 for 1;";
        shares("eight of the same", open + "loaf wafer 1;".repeat(8), 0, 1, 1, 1);
        shares("the last one alone helps", open + "loaf wafer 0;".repeat(7) + "loaf wafer 1;", 0, 1, 1, 128);
        shares("two help", open + "loaf wafer 0;loaf wafer 1;loaf wafer 0;loaf wafer 1;", 0, 1, 1, 2);
        shares("none helps", open + "loaf wafer 0;".repeat(8), 0, 0, -1, -1);
    }

    /** One loaf of a great number is fewer than two of less, which would do as well. */
    private static void sharesFewerAheadOfLess() {
        // Behind oven 0's loaf the house agrees with oven 1's, which is for topic 0; with oven 2's it agrees at once.
        String town = "topics 2;house 1 3;mind 0 1 for 1;said 0 1 for 3;said 1 0 for 1;said 1 1 for 2;said 2 0 for 1;said 2 1 for 3;";
        shares("two by numbers", town + "loaf wafer 0;loaf wafer 1;", 0, 1, 2, 3);
        shares("fewer goes ahead of less", town + "loaf wafer 0;loaf wafer 1;loaf wafer 2;", 0, 1, 1, 4);
        shares("fewer goes ahead of less, the last of eight", town + "loaf wafer 0;loaf wafer 1;" + "loaf wafer 3;".repeat(5) + "loaf wafer 2;", 0, 1, 1, 128);
    }

    /** Of six topics the last one, on which it takes several loaves. */
    private static void sharesOfTheLastTopic() {
        for (int t = 0; t < 6; t++) {
            int other = (t + 1) % 6;
            String town = "topics 6;house 4 0;mind 0 " + t + " against 1;mind 0 " + other + " for 3;said 0 " + t + " for 3;said 0 " + other + " for 3;";
            shares("one loaf is too few on topic " + t, town + "loaf wafer 0;", t, 0, -1, -1);
            shares("two loaves on topic " + t, town + "loaf wafer 0;loaf wafer 0;", t, 4, 2, 3);
            shares("two of eight on topic " + t, town + "loaf wafer 0;".repeat(8), t, 4, 2, 3);
        }
    }

    /** STUBBORN or more, for the meals that are thought of: what the house agrees with is 6 exactly. */
    private static void stubbornAtTheEdge() {
        for (int stubborn = 0; stubborn <= 9; stubborn++) {
            boolean eats = stubborn <= 6;
            String town = "topics 2;house 1 " + stubborn + ";mind 0 1 for 2;said 0 0 for 1;said 0 1 for 3;loaf wafer 0;";
            shares("6 of STUBBORN " + stubborn, town, 0, eats ? 1 : 0, eats ? 1 : -1, eats ? 1 : -1);
            feast(Probe.withTown(town), "6 of STUBBORN " + stubborn, 0, 1, 0, eats ? 1 : 0, eats ? 1 : 0, eats ? 1 : 0);
            sway("6 of STUBBORN " + stubborn, town, 0, 0, eats ? 1 : -1);
        }
    }

    /** By numbers: the house agrees with the loaf of less only behind the other one, which has the greater number. */
    private static void sharesByNumbers() {
        String town = "topics 2;house 1 2;mind 0 0 for 1;said 0 1 for 2;said 1 0 for 2;said 1 1 for 2;";
        shares("the helper has the greater number", town + "loaf wafer 0;loaf wafer 1;", 1, 1, 1, 2);
        BreadTalk x = Probe.withTown(town + "loaf wafer 0;loaf wafer 1;");
        P.due("Promise 13: in an order of one's own both are eaten", x.feast(0, 0, 3, 1, 0), 2);
        P.due("Promise 13: by numbers the first is left", x.feast(0, 0, 3, 1, 1), 1);
    }

    private static void feast(BreadTalk x, String name, int house, int loaves, int topic, int... due) {
        for (int what = 0; what < 3; what++) {
            P.due("Promise 13: " + name + ": feast(0, " + house + ", " + loaves + ", " + topic + ", " + what + ")", x.feast(0, house, loaves, topic, what), due[what]);
        }
    }

    private static void feastOfNone() {
        for (int mind = -3; mind <= 3; mind++) {
            BreadTalk x = Probe.withTown("house 1 9;mind 0 2" + view(mind) + ";");
            feast(x, "no loaves", 0, 0, 2, mind, mind, 1);
            feast(x, "a loaf that is not there", 0, 1, 2, -1000, -1000, -1000);
        }
    }

    private static void feastOfMost() {
        int[] orders = {1, 1, 2, 6, 24, 120, 720};
        BreadTalk x = Probe.withTown("house 1 0;said 0 0 for 1;" + "loaf wafer 0;".repeat(8));
        for (int set = 0; set < 256; set++) {
            int many = Integer.bitCount(set);
            P.due("Promise 13: orders of " + set, x.feast(0, 0, set, 0, 2), many <= 6 ? orders[many] : -1000);
        }
        for (int l = 0; l < 8; l++) {
            BreadTalk y = Probe.withTown("house 1 0;" + "loaf wafer 0;".repeat(l + 1));
            feast(y, "the last loaf", 0, 1 << l, 0, 0, 0, 1);
            feast(y, "behind the last loaf", 0, 2 << l, 0, -1000, -1000, -1000);
        }
        feast(x, "bits above", 0, 256, 0, -1000, -1000, -1000);
        feast(x, "bits above", 0, Integer.MIN_VALUE, 0, -1000, -1000, -1000);
        feast(x, "bits above", 0, Integer.MIN_VALUE + 1, 0, -1000, -1000, -1000);
    }

    private static void feastLeavesAll() {
        BreadTalk x = Probe.withTown("house 1 1;mind 0 0 against 2;said 0 0 for 3;" + "loaf wafer 0;".repeat(6));
        feast(x, "all are left", 0, 63, 0, -2, -2, 0);
        feast(x, "one is left", 0, 1, 0, -2, -2, 0);
        BreadTalk y = Probe.withTown("house 1 4;mind 0 0 for 2;said 0 0 for 2;said 1 0 for 1;loaf wafer 0;loaf wafer 1;");
        feast(y, "one at STUBBORN, one below", 0, 3, 0, 2, 2, 0);
        feast(y, "at STUBBORN", 0, 1, 0, 2, 2, 1);
    }

    private static void feastAtTheEnds() {
        BreadTalk x = Probe.withTown("house 1 0;said 0 0 for 3;said 1 0 against 3;" + "loaf wafer 0;".repeat(4) + "loaf wafer 1;".repeat(4));
        feast(x, "up to the end", 0, 15, 0, 3, 3, 24);
        feast(x, "down to the end", 0, 240, 0, -3, -3, 24);
        feast(x, "the first one tells", 0, 0b00010001, 0, 1, -1, 0);
        feast(x, "the first one tells", 0, 0b01110111, 0, 3, -3, 0);
    }

    private static void agree(String name, String town, int together, int strike, int couples) {
        BreadTalk x = Probe.withTown(town);
        P.due("Promise 14: " + name + ": TOGETHER", x.agree(0, 0), together);
        P.due("Promise 14: " + name + ": STRIKE", x.agree(0, 1), strike);
        P.due("Promise 14: " + name + ": couples", x.agree(0, 2), couples);
    }

    private static void agreeOfFew() {
        agree("no loaves", "said 0 0 for 1;said 1 0 against 1;", 0, 0, 0);
        agree("one loaf", "said 0 0 for 1;loaf wafer 0;", 1, 0, 0);
        agree("a loaf without views", "loaf wafer 0;", 1, 0, 0);
        agree("two that clash", "said 0 0 for 1;said 1 0 against 1;loaf wafer 0;loaf wafer 1;", 1, 1, 1);
        agree("0 clashes with none", "said 0 0 for 1;said 1 0 against 0;loaf wafer 0;loaf wafer 1;", 3, 0, 0);
        agree("unlike views of one sign", "said 0 0 for 1;said 1 0 for 3;loaf wafer 0;loaf wafer 1;", 3, 0, 0);
        agree("half of 1 clashes with none", "said 0 0 for 1;said 1 0 against 1;loaf bun 0;loaf wafer 1;", 3, 0, 0);
    }

    private static void agreeOfMany() {
        String two = "said 0 0 for 1;said 1 0 against 1;";
        agree("eight that agree", two + "loaf wafer 0;".repeat(8), 255, 0, 0);
        agree("four and four", two + "loaf wafer 0;".repeat(4) + "loaf wafer 1;".repeat(4), 15, 1, 16);
        agree("by turns", two + "loaf wafer 0;loaf wafer 1;".repeat(4), 0x55, 1, 16);
        agree("three and five", two + "loaf wafer 0;".repeat(3) + "loaf wafer 1;".repeat(5), 0xf8, 1, 15);
        agree("seven and one", two + "loaf wafer 1;" + "loaf wafer 0;".repeat(7), 0xfe, 1, 7);
        // Each two of the four ovens are unlike on some topic.
        String four = "said 0 0 for 1;said 0 1 for 1;said 1 0 for 1;said 1 1 against 1;said 2 0 against 1;said 2 1 for 1;said 3 0 against 1;said 3 1 against 1;";
        agree("each with each", four + "loaf wafer 0;loaf wafer 1;loaf wafer 2;loaf wafer 3;", 1, 3, 6);
        agree("each with each, and the last twice", four + "loaf wafer 0;loaf wafer 1;loaf wafer 2;loaf wafer 3;loaf toast 3;", 0b11000, 3, 9);
    }

    private static void strikeEdges() {
        StringBuilder all = new StringBuilder("topics 6;");
        for (int t = 0; t < 6; t++) {
            all.append("said 0 ").append(t).append(" for 1;said 1 ").append(t).append(" against 3;");
        }
        agree("every topic", all + "loaf wafer 0;loaf wafer 1;", 1, 63, 1);
        for (int t = 0; t < 6; t++) {
            agree("topic " + t + " alone", "topics 6;said 0 " + t + " for 3;said 1 " + t + " against 1;loaf wafer 0;loaf wafer 1;", 1, 1 << t, 1);
        }
    }

    /** Six topics are a loaf's own: what the next loaf has on topic 0 is no seventh. */
    private static void clashOfSixTopics() {
        String ovens = "topics 6;said 1 0 for 1;said 2 0 against 1;said 0 5 for 1;said 3 5 against 1;";
        agree("the next loaf's first topic", ovens + "loaf wafer 0;loaf wafer 1;loaf wafer 2;", 0b011, 1, 1);
        agree("the next loaf's first topic, the other way", ovens + "loaf wafer 2;loaf wafer 1;loaf wafer 0;", 0b101, 1, 1);
        agree("the last topic, the first topic", ovens + "loaf wafer 0;loaf wafer 3;loaf wafer 1;loaf wafer 2;", 0b0101, 0b100001, 2);
    }

    private static void sideEdges() {
        StringBuilder all = new StringBuilder("house 9 9;".repeat(8) + "said 0 0 for 3;loaf wafer 0;");
        for (int h = 0; h < 8; h++) {
            all.append("mind ").append(h).append(" 0 for 3;");
        }
        P.due("Promise 15: eight houses of 9 votes, at STUBBORN", Probe.withTown(all.toString()).side(0, 0, 0), 72);
        for (int stubborn = 0; stubborn <= 9; stubborn++) {
            BreadTalk x = Probe.withTown("house 4 " + stubborn + ";mind 0 1 for 2;said 0 1 for 3;loaf wafer 0;");
            P.due("Promise 15: 6 of STUBBORN " + stubborn, x.side(0, 0, 1), stubborn <= 6 ? 4 : 0);
        }
        for (int mind = -3; mind <= 3; mind++) {
            for (int v = -3; v <= 3; v++) {
                // On topic 1 there are 9, so that it agrees whatever it thinks of topic 0.
                BreadTalk x = Probe.withTown("topics 2;house 7 0;mind 0 1 for 3;mind 0 0" + view(mind) + ";said 0 1 for 3;said 0 0" + view(v) + ";loaf wafer 0;");
                if (v != 0) {
                    P.due("Promise 15: a mind of " + mind + ", a view of " + v, x.side(0, 0, 0), mind * v > 0 ? 7 : 0);
                }
                P.due("Promise 15: on the other topic", x.side(0, 0, 1), 7);
            }
        }
        // It agrees by topic 0, and is of the other sign on topic 1; on topic 2 it has no mind.
        BreadTalk y = Probe.withTown("house 4 0;mind 0 0 for 3;mind 0 1 against 1;said 0 0 for 3;said 0 1 for 1;said 0 2 for 1;loaf wafer 0;loaf wafer 1;");
        P.due("Promise 15: of its sign", y.side(0, 0, 0), 4);
        P.due("Promise 15: of the other sign", y.side(0, 0, 1), 0);
        P.due("Promise 15: without a mind", y.side(0, 0, 2), 0);
        P.due("Promise 15: of nobody", Probe.withTown("loaf wafer 0;").side(0, 0, 0), 0);
        BreadTalk z = Probe.withTown("topics 6;house 1 0;mind 0 5 against 1;said 3 5 against 1;" + "loaf wafer 3;".repeat(8));
        P.due("Promise 15: the last loaf, the last topic", z.side(0, 7, 5), 1);
        P.due("Promise 15: behind the last loaf", z.side(0, 8, 5), -1);
        P.due("Promise 15: behind the last topic", z.side(0, 7, 6), -1);
    }

    private static void visits(String name, String town, int topic, int tail, int period, int hermits) {
        BreadTalk x = Probe.withTown(town);
        P.due("Promise 16: " + name + ": TAIL", x.visits(0, topic, 0), tail);
        P.due("Promise 16: " + name + ": PERIOD", x.visits(0, topic, 1), period);
        P.due("Promise 16: " + name + ": HERMITS", x.visits(0, topic, 2), hermits);
    }

    private static void visitsOfNobody() {
        visits("nobody", "", 0, 0, 1, 0);
        visits("no visits", "house 1 0;house 1 0;mind 0 0 for 1;mind 1 0 against 1;", 0, 0, 1, 0);
        visits("all at 0", "house 1 0;house 1 0;visit 0 1;visit 1 0;", 0, 0, 1, 0);
        visits("all of one sign", "house 1 0;house 1 0;visit 0 1;visit 1 0;mind 0 0 for 3;mind 1 0 for 1;", 0, 0, 1, 0);
        visits("the last topic", "topics 6;house 1 0;house 1 0;visit 0 1;visit 1 0;mind 0 5 for 3;mind 1 5 against 1;", 5, 0, 2, 1);
    }

    private static String chain(int houses) {
        StringBuilder town = new StringBuilder("house 1 0;".repeat(houses) + "mind 0 0 for 1;");
        for (int h = 1; h < houses; h++) {
            town.append("visit ").append(h).append(' ').append(h - 1).append(';');
        }
        return town.toString();
    }

    /** One after the other hears of it: as many steps as there are others. */
    private static void visitsChain() {
        for (int houses = 1; houses <= 8; houses++) {
            visits("a chain of " + houses, chain(houses), 0, houses - 1, 1, 0);
        }
    }

    private static String ring(int from, int houses, int forIt) {
        StringBuilder town = new StringBuilder();
        for (int h = 0; h < houses; h++) {
            town.append("visit ").append(from + h).append(' ').append(from + (h + 1) % houses).append(';');
            town.append("mind ").append(from + h).append(" 0").append(h == forIt ? " for 1;" : " against 1;");
        }
        return town.toString();
    }

    private static void visitsRings() {
        for (int houses = 2; houses <= 8; houses++) {
            visits("a ring of " + houses, "house 1 0;".repeat(houses) + ring(0, houses, 0), 0, 0, houses, 1);
        }
        String eight = "house 1 0;".repeat(8);
        visits("rings of 3 and 5", eight + ring(0, 3, 0) + ring(3, 5, 1), 0, 0, 15, 0b1001);
        visits("rings of 4 and 4", eight + ring(0, 4, 0) + ring(4, 4, 1), 0, 0, 4, 0b10001);
        visits("rings of 2, 3 and 3", eight + ring(0, 2, 0) + ring(2, 3, 1) + ring(5, 3, 2), 0, 0, 6, 0b100101);
        visits("four couples", eight + ring(0, 2, 0) + ring(2, 2, 0) + ring(4, 2, 1) + ring(6, 2, 0), 0, 0, 2, 0b01010101);
        visits("a ring of two, and one that comes to it", "house 1 0;house 1 0;house 1 0;visit 2 0;" + ring(0, 2, 0), 0, 1, 2, 1);
    }

    /** Its own sign, if all signs together are 0. */
    private static void visitsEven() {
        for (int own = -1; own <= 1; own++) {
            String town = "house 1 0;house 1 0;house 1 0;house 1 0;mind 0 0" + view(own) + ";mind 1 0 for 3;mind 2 0 against 1;visit 0 1;visit 0 2;visit 0 3;";
            visits("even", town, 0, 0, 1, 0);
            BreadTalk x = Probe.withTown(town);
            P.due("Promise 17: its own, if together 0", x.sign(0, 0, 0, 1), own);
            P.due("Promise 17: its own, if together 0", x.sign(0, 0, 0, 99), own);
            BreadTalk y = Probe.withTown(town + "mind 3 0 against 1;");
            P.due("Promise 17: two against one", y.sign(0, 0, 0, 1), -1);
            BreadTalk z = Probe.withTown(town + "mind 3 0 for 1;");
            P.due("Promise 17: views do not count, signs do", z.sign(0, 0, 0, 1), 1);
        }
    }

    private static void hermits() {
        // House 2 of the ring is the one that another couple goes by: by any one it settles, the least number is told.
        visits("the least of several", "house 1 0;house 1 0;house 1 0;" + ring(0, 3, 2), 0, 0, 3, 1);
        // Houses 0 and 1 are no part of what goes round.
        visits("not the first ones", "house 1 0;".repeat(4) + "visit 0 1;" + ring(2, 2, 0), 0, 0, 2, 0b100);
        // All others go to house 1, which goes to all of them: it alone is to stay, with its own sign, whatever it sees.
        visits("the one in the middle", "house 1 0;".repeat(4) + "mind 1 0 for 1;mind 0 0 against 1;mind 2 0 against 1;mind 3 0 against 1;"
                + "visit 0 1;visit 2 1;visit 3 1;visit 1 0;visit 1 2;visit 1 3;", 0, 0, 2, 0b10);
        StringBuilder star = new StringBuilder("house 1 0;".repeat(8) + "mind 7 0 for 1;");
        for (int h = 0; h < 7; h++) {
            star.append("mind ").append(h).append(" 0 against 1;visit ").append(h).append(" 7;visit 7 ").append(h).append(';');
        }
        visits("the last one in the middle of seven", star.toString(), 0, 0, 2, 0b10000000);
        visits("the last couple", "house 1 0;".repeat(8) + ring(6, 2, 0), 0, 0, 2, 0b1000000);
    }

    private static void signSteps() {
        BreadTalk x = Probe.withTown(chain(8));
        for (int h = -1; h < 9; h++) {
            for (int n : new int[] {-1, 0, 1, 6, 7, 8, 98, 99, 100}) {
                boolean there = h >= 0 && h < 8 && n >= 0 && n <= 99;
                P.due("Promise 17: sign(0, 0, " + h + ", " + n + ") of a chain", x.sign(0, 0, h, n), there ? n >= h ? 1 : 0 : -9);
            }
        }
        BreadTalk y = Probe.withTown("house 1 0;house 1 0;" + ring(0, 2, 0));
        for (int n = 0; n <= 99; n++) {
            P.due("Promise 17: changing over " + n, y.sign(0, 0, 0, n), n % 2 == 0 ? 1 : -1);
        }
    }

    private static void salesEdges() {
        for (int mind = -3; mind <= 3; mind++) {
            BreadTalk x = Probe.withTown("topics 6;house 9 0;mind 0 5" + view(mind) + ";");
            for (int one = -4; one <= 4; one++) {
                for (int two = -4; two <= 4; two++) {
                    boolean views = Math.abs(one) <= 3 && Math.abs(two) <= 3;
                    int first = Math.abs(mind - one);
                    int second = Math.abs(mind - two);
                    String name = "Promise 18: sales of " + one + " and " + two + " at " + mind;
                    P.due(name, x.sales(0, 5, one, two, false), views ? first < second ? 9 : 0 : -1);
                    P.due(name, x.sales(0, 5, one, two, true), views ? second < first ? 9 : 0 : -1);
                }
            }
        }
        StringBuilder all = new StringBuilder("house 9 0;".repeat(8));
        for (int h = 0; h < 8; h++) {
            all.append("mind ").append(h).append(" 0 for 1;");
        }
        BreadTalk y = Probe.withTown(all.toString());
        P.due("Promise 18: all buy of the first", y.sales(0, 0, 1, 2, false), 72);
        P.due("Promise 18: all are as near to both", y.sales(0, 0, 0, 2, false), 0);
        P.due("Promise 18: all are as near to both", y.sales(0, 0, 0, 2, true), 0);
        P.due("Promise 18: both the same", y.sales(0, 0, 1, 1, true), 0);
        P.due("Promise 18: of nobody", Probe.withTown("").sales(0, 2, -3, 3, false), 0);
    }

    /** One of both is where the house is, else the other one would sell more by going there. */
    private static void restsOfOneHouse() {
        for (int mind = -3; mind <= 3; mind++) {
            BreadTalk x = Probe.withTown("topics 6;house 1 0;mind 0 5" + view(mind) + ";");
            P.due("Promise 19: how many at " + mind, x.rest(0, 5, -1), 13);
            int k = 0;
            for (int one = -3; one <= 3; one++) {
                for (int two = -3; two <= 3; two++) {
                    if (one == mind || two == mind) {
                        P.due("Promise 19: the " + k + "-th at " + mind, x.rest(0, 5, k), 7 * (one + 3) + two + 3);
                        k++;
                    }
                }
            }
            P.due("Promise 19: behind the last at " + mind, x.rest(0, 5, 13), -1);
            P.due("Promise 19: ahead of how many at " + mind, x.rest(0, 5, -2), -1);
            P.due("Promise 19: behind the last topic", x.rest(0, 6, -1), -1);
        }
    }

    private static void restsOfNobody() {
        BreadTalk x = Probe.withTown("");
        P.due("Promise 19: all couples", x.rest(0, 0, -1), 49);
        for (int k = 0; k < 49; k++) {
            P.due("Promise 19: couple " + k, x.rest(0, 0, k), k);
        }
        P.due("Promise 19: no 50th", x.rest(0, 0, 49), -1);
        // Three houses, at the ends and at 0: one of both is at 0, the other one is not, since beside it there is one to sell to.
        BreadTalk y = Probe.withTown("house 1 0;house 1 0;house 1 0;mind 0 0 against 3;mind 2 0 for 3;");
        int[] rests = {3, 10, 17, 21, 22, 23, 25, 26, 27, 31, 38, 45};
        P.due("Promise 19: of three houses", y.rest(0, 0, -1), rests.length);
        for (int k = 0; k < rests.length; k++) {
            P.due("Promise 19: the " + k + "-th of three houses", y.rest(0, 0, k), rests[k]);
        }
        P.due("Promise 19: behind the last of three houses", y.rest(0, 0, rests.length), -1);
    }

    private static void apartEdges() {
        StringBuilder most = new StringBuilder("topics 6;house 1 0;house 1 0;");
        for (int t = 0; t < 6; t++) {
            most.append("mind 0 ").append(t).append(" for 3;mind 1 ").append(t).append(" against 3;");
        }
        BreadTalk x = Probe.withTown(most.toString());
        P.due("Promise 25: the most", x.apart(0, 0, 1), 36);
        P.due("Promise 25: the other way", x.apart(0, 1, 0), 36);
        P.due("Promise 25: from itself", x.apart(0, 0, 0), 0);
        P.due("Promise 25: no such", x.apart(0, 0, 2), -1);
        P.due("Promise 25: no such", x.apart(0, 2, 0), -1);
        BreadTalk y = Probe.withTown("house 1 0;".repeat(8) + "mind 7 2 for 1;");
        P.due("Promise 25: the last house", y.apart(0, 0, 7), 1);
        P.due("Promise 25: of one mind", y.apart(0, 0, 6), 0);
        P.due("Promise 25: behind the last house", y.apart(0, 0, 8), -1);
        for (int n : new int[] {0, 1, 35, 36}) {
            P.due("Promise 26: 36 apart, within " + n, x.factions(0, n, -1), n == 36 ? 1 : 2);
            P.due("Promise 26: 36 apart, within " + n, x.factions(0, n, 1), n == 36 ? 3 : 2);
        }
        P.due("Promise 26: within 37", x.factions(0, 37, -1), -1);
        P.due("Promise 26: within -1", x.factions(0, -1, -1), -1);
    }

    private static void factionsEdges() {
        BreadTalk x = Probe.withTown("");
        P.due("Promise 26: of nobody", x.factions(0, 0, -1), 0);
        P.due("Promise 26: of nobody", x.factions(0, 36, -1), 0);
        P.due("Promise 26: no such house", x.factions(0, 0, 0), -1);
        BreadTalk y = Probe.withTown("house 1 0;".repeat(8));
        P.due("Promise 26: all of one mind", y.factions(0, 0, -1), 1);
        P.due("Promise 26: all of one mind", y.factions(0, 0, 7), 255);
        P.due("Promise 26: behind the last house", y.factions(0, 0, 8), -1);
        P.due("Promise 26: ahead of how many", y.factions(0, 0, -2), -1);
        StringBuilder far = new StringBuilder("topics 6;" + "house 1 0;".repeat(8));
        for (int h = 1; h < 8; h++) {
            far.append("mind ").append(h).append(' ').append(h % 6).append(h < 4 ? " for 3;" : " against 3;");
        }
        BreadTalk z = Probe.withTown(far.toString());
        P.due("Promise 26: eight by themselves", z.factions(0, 2, -1), 8);
        P.due("Promise 26: by 3 all are with the first", z.factions(0, 3, -1), 1);
        P.due("Promise 26: by itself", z.factions(0, 2, 7), 128);
        P.due("Promise 26: all", z.factions(0, 3, 7), 255);
    }

    /** Those at the ends are far from one another, and yet of one FACTION: by those between, whatever their numbers. */
    private static void factionsChain() {
        int[] minds = {3, -3, 1, -1, 2, -2, 0};
        StringBuilder town = new StringBuilder();
        for (int h = 0; h < 7; h++) {
            town.append("house 1 0;mind ").append(h).append(" 0").append(view(minds[h])).append(';');
        }
        BreadTalk x = Probe.withTown(town + "house 1 0;mind 7 1 for 2;");
        P.due("Promise 26: a chain", x.factions(0, 1, 0), 127);
        P.due("Promise 26: a chain, from its other end", x.factions(0, 1, 1), 127);
        P.due("Promise 26: one beside it", x.factions(0, 1, 7), 128);
        P.due("Promise 26: two factions", x.factions(0, 1, -1), 2);
        P.due("Promise 26: within 0", x.factions(0, 0, -1), 8);
        P.due("Promise 26: within 2", x.factions(0, 2, -1), 1);
    }

    /** Houses of one FACTION need not be neighbours by number: each FACTION is counted once. */
    private static void factionsByTurns() {
        BreadTalk x = Probe.withTown("house 1 0;".repeat(8) + "mind 1 0 for 3;mind 3 0 for 3;mind 5 0 for 3;mind 7 0 for 3;mind 6 0 against 3;mind 2 0 against 3;");
        P.due("Promise 26: by turns", x.factions(0, 0, -1), 3);
        P.due("Promise 26: by turns, within 2", x.factions(0, 2, -1), 3);
        P.due("Promise 26: by turns, within 3", x.factions(0, 3, -1), 1);
        int[] due = {0x11, 0xaa, 0x44, 0xaa, 0x11, 0xaa, 0x44, 0xaa};
        for (int h = 0; h < 8; h++) {
            P.due("Promise 26: by turns, that of " + h, x.factions(0, 2, h), due[h]);
        }
        BreadTalk y = Probe.withTown("house 1 0;house 1 0;house 1 0;mind 1 0 for 1;");
        P.due("Promise 26: two of three, one between", y.factions(0, 0, -1), 2);
        P.due("Promise 26: two of three, one between", y.factions(0, 0, 2), 0b101);
    }

    private static void pivots(String name, String town, int topic, int want) {
        P.due("Promise 27: " + name, Probe.withTown(town).pivots(0, topic), want);
    }

    private static void pivotsEdges() {
        pivots("nobody", "", 0, 0);
        pivots("nobody votes", "house 1 0;house 9 0;", 0, 0);
        pivots("one alone", "house 1 0;mind 0 0 for 1;", 0, 1);
        pivots("one alone, against", "house 9 0;mind 0 0 against 3;", 0, 1);
        pivots("two of one sign", "house 1 0;house 9 0;mind 0 0 for 1;mind 1 0 for 1;", 0, 0);
        pivots("even: without each it is another sign", "house 4 0;house 4 0;mind 0 0 for 1;mind 1 0 against 1;", 0, 3);
        pivots("by 1: to 0 is another sign", "house 4 0;house 1 0;house 4 0;mind 0 0 for 1;mind 1 0 for 1;mind 2 0 against 1;", 0, 0b011);
        pivots("without the other side it is more of the same", "house 2 0;house 1 0;mind 0 0 for 1;mind 1 0 against 1;", 0, 1);
        pivots("two of 1 and one of 2", "house 1 0;house 1 0;house 2 0;mind 0 0 for 3;mind 1 0 for 1;mind 2 0 against 1;", 0, 0b111);
        pivots("two of 1 and one of 3", "house 1 0;house 1 0;house 3 0;mind 0 0 for 3;mind 1 0 for 1;mind 2 0 against 1;", 0, 0b100);
        pivots("to the other sign", "house 3 0;house 2 0;mind 0 0 for 1;mind 1 0 against 1;", 0, 1);
        pivots("one without a mind", "house 9 0;house 1 0;mind 1 0 for 1;", 0, 2);
        StringBuilder all = new StringBuilder("topics 6;" + "house 9 0;".repeat(8));
        for (int h = 0; h < 8; h++) {
            all.append("mind ").append(h).append(" 5").append(h < 4 ? " for 1;" : " against 1;");
        }
        pivots("four and four", all.toString(), 5, 255);
        pivots("on another topic", all.toString(), 4, 0);
        pivots("behind the last topic", all.toString(), 6, -1);
    }

    private static void sway(String name, String town, int house, int topic, int which) {
        BreadTalk x = Probe.withTown(town);
        P.due("Promise 28: " + name + ": which", x.sway(0, house, topic, true), which);
        P.due("Promise 28: " + name + ": how many", x.sway(0, house, topic, false), which < 0 ? -1 : Integer.bitCount(which));
    }

    private static void swayEdges() {
        String loaf = "said 0 0 for 3;loaf wafer 0;";
        sway("above 0 at once, without loaves", "house 1 9;mind 0 0 for 1;", 0, 0, 0);
        sway("above 0 at once, with loaves", "house 1 0;mind 0 0 for 3;" + loaf, 0, 0, 0);
        sway("open", "house 1 9;" + loaf, 0, 0, 1);
        sway("open, without loaves", "house 1 0;", 0, 0, -1);
        sway("at 0, not open, as STUBBORN as may be", "house 1 3;mind 0 1 for 1;said 0 1 for 3;" + loaf, 0, 0, 1);
        sway("at 0, not open, too STUBBORN", "house 1 4;mind 0 1 for 1;said 0 1 for 3;" + loaf, 0, 0, -1);
        sway("from -1 it takes two", "house 1 0;mind 0 0 against 1;mind 0 1 for 1;said 0 1 for 3;" + loaf, 0, 0, -1);
        sway("from -1 it takes two", "house 1 0;mind 0 0 against 1;mind 0 1 for 1;said 0 1 for 3;" + loaf + "loaf wafer 0;", 0, 0, 3);
        for (int loaves = 3; loaves <= 8; loaves++) {
            String deep = "house 1 0;mind 0 0 against 3;mind 0 1 for 3;said 0 0 for 3;said 0 1 for 3;" + "loaf wafer 0;".repeat(loaves);
            sway("from -3 it takes four of " + loaves, deep, 0, 0, loaves < 4 ? -1 : 15);
        }
        String last = "topics 6;" + "house 1 0;".repeat(8) + "mind 7 5 against 1;mind 7 4 for 3;said 3 5 for 1;said 3 4 for 3;" + "loaf wafer 3;".repeat(2);
        sway("the last house, the last topic", last, 7, 5, 3);
        sway("another house", last, 6, 5, 1);
        sway("behind the last house", last, 8, 5, -1);
        sway("behind the last topic", last, 7, 6, -1);
        sway("a loaf that is against it", "house 1 0;said 0 0 against 1;loaf wafer 0;", 0, 0, -1);
    }

    /** Towns in which it takes six, seven, all eight loaves. */
    private static void swayOfMany() {
        String[] towns = {
            "topics 3;house 1 2;mind 0 0 against 3;mind 0 1 for 2;said 1 0 for 3;said 3 1 for 3;said 0 2 for 1;said 0 2 for 3;said 3 1 for 2;said 0 0 against 1;said 3 2 for 2;said 1 2 for 2;said 2 0 for 3;said 0 0 for 1;loaf toast 3;loaf bun 2;loaf bun 1;loaf toast 2;loaf toast 0;loaf toast 3;loaf rye 0;loaf toast 1;",
            "topics 2;house 1 0;mind 0 0 against 3;said 1 0 for 1;said 0 1 for 2;said 2 1 for 2;said 2 0 for 3;said 0 0 for 3;said 0 1 for 2;said 1 1 against 1;said 3 1 for 2;said 2 0 for 2;said 0 1 for 2;said 0 0 for 2;said 1 1 for 3;loaf toast 3;loaf wafer 3;loaf toast 3;loaf bun 2;loaf toast 1;loaf toast 3;loaf bun 0;loaf wafer 2;",
            "topics 3;house 1 0;mind 0 0 against 3;mind 0 2 against 2;said 0 1 for 2;said 2 1 for 2;said 1 2 for 2;said 1 2 for 2;said 0 0 for 3;said 3 2 against 3;said 0 0 for 2;said 1 0 against 3;said 3 2 for 1;said 3 2 for 3;said 3 0 for 2;loaf toast 3;loaf toast 0;loaf toast 2;loaf rye 1;loaf bun 1;loaf wafer 1;loaf toast 3;loaf toast 2;",
            "topics 2;house 1 1;mind 0 0 against 3;mind 0 1 for 3;said 2 1 for 1;said 2 1 for 1;said 0 1 against 1;said 1 1 against 3;said 0 0 for 1;said 1 0 for 2;said 3 1 for 2;said 0 0 against 1;said 3 1 against 3;said 1 1 against 2;said 3 0 against 2;loaf crust 0;loaf wafer 1;loaf wafer 1;loaf bun 3;loaf rye 3;loaf toast 3;loaf bun 3;loaf crust 2;"};
        int[] which = {245, 223, 255, 255};
        for (int i = 0; i < towns.length; i++) {
            sway("many are needed", towns[i], 0, 0, which[i]);
            P.due("Promise 28: as all orders have it", Slow.sway(new Slow.Town(Slow.parse(0, towns[i])), 0, 0), which[i]);
        }
    }

    private static void swayTheLeast() {
        String open = "house 1 0;said 1 0 for 1;";
        sway("the last one alone", open + "loaf wafer 0;".repeat(7) + "loaf wafer 1;", 0, 0, 128);
        sway("the least of eight", open + "loaf wafer 1;".repeat(8), 0, 0, 1);
        sway("the least of two", open + "loaf wafer 0;loaf wafer 1;loaf wafer 0;loaf wafer 1;", 0, 0, 2);
        // One alone, of a great number, is fewer than two of less.
        String two = "topics 2;house 1 3;mind 0 1 for 1;said 0 1 for 3;said 1 0 for 1;said 1 1 for 2;said 2 0 for 1;said 2 1 for 3;";
        sway("fewer goes ahead of less", two + "loaf wafer 0;loaf wafer 1;loaf wafer 2;", 0, 0, 4);
        sway("in some order", two + "loaf wafer 1;loaf wafer 0;", 0, 0, 3);
    }
}
