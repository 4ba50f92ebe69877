/** Boundary cases of days: promises 10, 11 and 24, by the terms' second part: ovens, loaves, nights, minds, deeds that can't be. */
public final class DayEdgesTest {
    private static final Probe P = new Probe();
    private static final String[] KINDS = {"rye", "bun", "crust", "toast", "wafer"};
    private static final int[] HALVES = {-1, -1, 0, 0, 0, 1, 1};

    public static void main(String[] args) {
        nothingSaid();
        saidBehindOneAnother();
        viewsOfKinds();
        crustOfTheLast();
        bakedBehindAllSaid();
        agesOfToldLoaves();
        agesOfBakedLoaves();
        waferStaysFresh();
        eatenStaysEaten();
        agreesAtTheEdge();
        agreesOfOpenMinds();
        everyBite();
        eatenOnce();
        talkOfNothing();
        talkByNumbers();
        talkOfTheLastHouse();
        sayOnTopics();
        noSuchHouse();
        noSuchLoaf();
        sixteenLoaves();
        stops();
        refusedDeedLeaves();
        statesUpToStop();
        tally();
        oneMind();
        whatOfFullTown();
        whatOfEmptyTown();
        townsAndDays();
        drawnTimes();
        drawnSeeds();
        drawnWithoutHouses();
        drawnOfOneHouse();
        drawnEatsTheLeast();
        drawnBakesNoMore();
        P.end("DayEdgesTest");
    }

    private static String view(int v) {
        return v < 0 ? " against " + -v : " for " + v;
    }

    private static void state(String name, BreadTalk x, int n, int what, int want) {
        P.due("Promise 11: " + name + ": state(0, 0, " + n + ", " + what + ")", x.state(0, 0, n, what), want);
    }

    private static void stop(String town, String days, int want) {
        P.due("Promise 10: stop of " + town + " / " + days, Probe.withDays(town, days).stop(0, 0), want);
    }

    /** 0 both at first, no last topic; loaves of every kind have views of 0. */
    private static void nothingSaid() {
        BreadTalk x = Probe.withDays("topics 6;loaf rye 0;loaf bun 1;loaf crust 2;loaf toast 3;loaf wafer 0;", "");
        for (int o = 0; o < 4; o++) {
            state("none at first", x, 0, 280 + o, -1);
            for (int t = 0; t < 6; t++) {
                state("LATEST at first", x, 0, 200 + 6 * o + t, 0);
                state("PAST at first", x, 0, 240 + 6 * o + t, 0);
            }
        }
        for (int l = 0; l < 5; l++) {
            for (int t = 0; t < 6; t++) {
                state("VIEWS of nothing", x, 0, 100 + 6 * l + t, 0);
            }
        }
        state("the night at first", x, 0, 0, 0);
    }

    private static void saidBehindOneAnother() {
        BreadTalk x = Probe.withDays("", "say 3 1 for 2;say 3 1 for 2;say 3 1 against 1;say 3 2 for 3;say 3 1 for 0;say 2 1 for 1;");
        int[][] due = {{0, 0, -1}, {2, 0, 1}, {2, 2, 1}, {-1, 2, 1}, {-1, 2, 2}, {0, -1, 1}, {0, -1, 1}};
        for (int n = 0; n < due.length; n++) {
            state("LATEST of oven 3", x, n, 219, due[n][0]);
            state("PAST of oven 3", x, n, 259, due[n][1]);
            state("LAST of oven 3", x, n, 283, due[n][2]);
        }
        state("another oven", x, 5, 213, 0);
        state("another oven", x, 6, 213, 1);
        state("another oven", x, 6, 282, 1);
        state("an oven of none", x, 6, 280, -1);
        BreadTalk y = Probe.withDays("said 0 0 for 3;said 0 0 for 2;said 0 0 for 1;said 0 1 for 3;", "");
        state("as told: LATEST", y, 0, 200, 1);
        state("as told: PAST", y, 0, 240, 2);
        state("as told: LAST", y, 0, 280, 1);
        BreadTalk z = Probe.withDays("said 0 2 for 0;", "");
        state("0 is said as well", z, 0, 280, 2);
    }

    private static void viewsOfKinds() {
        for (int past = -3; past <= 3; past++) {
            for (int latest = -3; latest <= 3; latest++) {
                String town = "said 2 1" + view(past) + ";said 2 1" + view(latest) + ";loaf rye 2;loaf bun 2;loaf crust 2;loaf toast 2;loaf wafer 2;";
                BreadTalk x = Probe.withDays(town, "bake rye 2;bake bun 2;bake crust 2;bake toast 2;bake wafer 2;bake wafer 1;");
                int[] due = {past, HALVES[latest + 3], latest, 3 * Integer.signum(latest), latest};
                for (int kind = 0; kind < 5; kind++) {
                    String name = KINDS[kind] + " of " + past + ", " + latest;
                    state(name, x, 6, 101 + 6 * kind, due[kind]);
                    state(name + ", baked", x, 6, 131 + 6 * kind, due[kind]);
                    state(name + " on another topic", x, 6, 100 + 6 * kind, 0);
                    state(name + " on another topic", x, 6, 102 + 6 * kind, 0);
                }
                state("of another oven", x, 6, 161, 0);
            }
        }
    }

    private static void crustOfTheLast() {
        BreadTalk x = Probe.withDays("topics 6;said 0 5 for 3;said 0 0 against 2;loaf crust 0;", "say 0 5 for 0;bake crust 0;say 0 5 for 1;bake crust 0;");
        for (int t = 0; t < 6; t++) {
            state("crust of topic 0", x, 4, 100 + t, t == 0 ? -2 : 0);
            state("crust of a last topic at 0", x, 4, 106 + t, 0);
            state("crust of the greatest topic", x, 4, 112 + t, t == 5 ? 1 : 0);
        }
    }

    /** All that was SAID comes first, wherever it stands in the text; later words change no loaf. */
    private static void bakedBehindAllSaid() {
        BreadTalk x = Probe.withDays("loaf wafer 1;loaf rye 1;said 1 0 for 1;said 1 0 for 2;", "say 1 0 for 3;");
        for (int n = 0; n < 2; n++) {
            state("wafer behind all", x, n, 100, 2);
            state("rye behind all", x, n, 106, 1);
        }
    }

    private static void agesOfToldLoaves() {
        for (int life = 1; life <= 9; life++) {
            for (int kind = 0; kind < 5; kind++) {
                String town = "life " + life + ";house 1 0;loaf " + KINDS[kind] + " 0;";
                BreadTalk x = Probe.withDays(town, "night;".repeat(12));
                for (int n = 0; n <= 12; n++) {
                    boolean stale = n + 1 > life && kind != 4;
                    state("a loaf of life " + life, x, n, 20, stale ? 2 : 1);
                    state("the night", x, n, 0, n);
                }
                stop(town, "night;".repeat(life - 1) + "eat 0 0;", life);
                stop(town, "night;".repeat(life) + "eat 0 0;", kind == 4 ? life + 1 : life);
                stop(town, "night;".repeat(life) + "butter 0 0;", kind == 4 ? life + 1 : life);
            }
        }
    }

    private static void agesOfBakedLoaves() {
        for (int life = 1; life <= 9; life++) {
            for (int kind = 0; kind < 5; kind++) {
                String town = "house 1 0;life " + life + ";";
                String bake = "bake " + KINDS[kind] + " 0;";
                BreadTalk x = Probe.withDays(town, bake + "night;".repeat(12));
                state("not there ahead of its bake", x, 0, 20, -1000);
                for (int n = 0; n <= 12; n++) {
                    boolean stale = n > life && kind != 4;
                    state("a baked loaf of life " + life, x, n + 1, 20, n == 0 ? 0 : stale ? 2 : 1);
                }
                stop(town, bake + "eat 0 0;", 1);
                stop(town, bake + "butter 0 0;", 1);
                stop(town, bake + "night;eat 0 0;", 3);
                stop(town, bake + "night;".repeat(life) + "eat 0 0;", life + 2);
                stop(town, bake + "night;".repeat(life + 1) + "eat 0 0;", kind == 4 ? life + 3 : life + 2);
            }
        }
    }

    private static void waferStaysFresh() {
        BreadTalk x = Probe.withDays("life 1;loaf wafer 0;", "night;".repeat(40));
        state("a wafer behind forty nights", x, 40, 20, 1);
        state("forty nights", x, 40, 0, 40);
        P.due("Promise 10: forty deeds that can be", x.stop(0, 0), 40);
        stop("life 1;house 1 0;loaf wafer 0;", "night;".repeat(39) + "eat 0 0;", 40);
    }

    private static void eatenStaysEaten() {
        BreadTalk x = Probe.withDays("life 1;house 1 0;loaf rye 0;loaf rye 0;loaf wafer 0;", "eat 0 0;butter 0 2;night;night;");
        int[][] due = {{1, 1, 1}, {3, 1, 1}, {3, 1, 3}, {3, 2, 3}, {3, 2, 3}};
        int[] eaten = {0, 1, 2, 2, 2};
        for (int n = 0; n < 5; n++) {
            for (int l = 0; l < 3; l++) {
                state("eaten or not", x, n, 20 + l, due[n][l]);
            }
            state("how many are eaten", x, n, 2, eaten[n]);
            state("eaten ones are LOAVES all the same", x, n, 1, 3);
        }
    }

    /** STUBBORN or more: on each side of every edge from 0 to 9. */
    private static void agreesAtTheEdge() {
        for (int mind = -3; mind <= 3; mind++) {
            for (int v = -3; v <= 3; v++) {
                for (int other = -1; other <= 1; other++) {
                    int sum = mind * v + 2 * other;
                    for (int stubborn = 0; stubborn <= 9; stubborn++) {
                        String town = "house 1 " + stubborn + ";mind 0 0" + view(mind) + ";mind 0 2 for 2;said 0 0" + view(v) + ";said 0 2" + view(other) + ";loaf wafer 0;";
                        BreadTalk x = Probe.withDays(town, "eat 0 0;");
                        state("minds times views are " + sum + ", STUBBORN " + stubborn, x, 0, 300, sum >= stubborn ? 1 : 0);
                        P.due("Promise 10: eaten if it AGREES", x.stop(0, 0), sum >= stubborn ? 1 : 0);
                    }
                }
            }
        }
        String six = "topics 6;house 1 9;mind 0 0 for 3;mind 0 5 for 1;said 0 0 for 3;said 0 5 against 1;loaf wafer 0;said 1 0 for 3;loaf wafer 1;said 2 0 for 2;said 2 5 for 3;loaf wafer 2;";
        BreadTalk x = Probe.withDays(six, "");
        state("8 of 9", x, 0, 300, 0);
        state("9 of 9", x, 0, 301, 1);
        state("9 of 9, by two topics", x, 0, 302, 1);
    }

    /** All minds 0 agree with all, whatever STUBBORN is; one that is not 0 is enough, on any topic. */
    private static void agreesOfOpenMinds() {
        for (int t = 0; t <= 6; t++) {
            String mind = t == 6 ? "" : "mind 0 " + t + " for 1;";
            BreadTalk x = Probe.withDays("topics 6;house 1 1;house 1 9;" + mind + "said 0 0 for 0;loaf wafer 0;", "");
            state("a loaf without views, STUBBORN 1, mind on " + t, x, 0, 300, t == 6 ? 1 : 0);
            state("another house is open", x, 0, 316, 1);
        }
        BreadTalk y = Probe.withDays("house 1 9;said 0 0 against 3;loaf wafer 0;loaf wafer 0;", "eat 0 0;");
        state("open to any views", y, 0, 300, 1);
        state("no longer open: 3 of 9", y, 1, 301, 0);
        BreadTalk z = Probe.withDays("house 1 0;mind 0 0 for 1;loaf wafer 0;", "");
        state("STUBBORN 0, all together 0", z, 0, 300, 1);
    }

    /** Every mind with every view; a second topic makes them agree. */
    private static void everyBite() {
        for (int mind = -3; mind <= 3; mind++) {
            for (int v = -3; v <= 3; v++) {
                String town = "topics 2;house 1 0;mind 0 0" + view(mind) + ";mind 0 1 for 3;said 0 0" + view(v) + ";said 0 1 for 3;loaf wafer 0;";
                int way = v == 0 ? 0 : v - mind;
                BreadTalk x = Probe.withDays(town, "eat 0 0;");
                state("eat of " + v + " at " + mind, x, 1, 40, mind + Integer.signum(way));
                state("a mind that is there stays", x, 1, 41, 3);
                BreadTalk y = Probe.withDays(town, "butter 0 0;");
                state("butter of " + v + " at " + mind, y, 1, 40, mind + (Math.abs(way) <= 2 ? way : 2 * Integer.signum(way)));
                state("butter goes not beyond", y, 1, 41, 3);
            }
        }
    }

    private static void eatenOnce() {
        String town = "house 1 0;house 1 0;loaf wafer 0;loaf wafer 0;";
        for (String first : new String[] {"eat", "butter"}) {
            for (String second : new String[] {"eat", "butter"}) {
                stop(town, first + " 0 1;" + second + " 0 1;", 1);
                stop(town, first + " 0 1;" + second + " 1 1;", 1);
                stop(town, first + " 0 1;" + second + " 1 0;", 2);
            }
        }
    }

    private static void talkOfNothing() {
        BreadTalk x = Probe.withDays("house 1 0;house 1 0;said 1 2 for 1;mind 1 0 for 0;", "talk 0 1;talk 1 0;");
        P.due("Promise 10: a talk of nothing can be", x.stop(0, 0), 2);
        state("nothing is said", x, 2, 208, 1);
        state("nothing is said: PAST", x, 2, 248, 0);
        state("nothing is said: LAST", x, 2, 281, 2);
        state("nothing is said by a new oven", x, 2, 280, -1);
    }

    private static void talkByNumbers() {
        BreadTalk x = Probe.withDays("topics 6;house 1 0;mind 0 4 against 3;mind 0 0 for 2;said 3 0 for 1;said 3 5 for 3;", "talk 0 3;talk 0 3;bake crust 3;");
        int[] latest = {2, 0, 0, 0, -3, 3};
        int[] past = {1, 0, 0, 0, 0, 0};
        for (int t = 0; t < 6; t++) {
            state("LATEST of " + t, x, 1, 218 + t, latest[t]);
            state("PAST of " + t, x, 1, 258 + t, past[t]);
            state("PAST of " + t + ", said twice", x, 2, 258 + t, t == 0 ? 2 : t == 4 ? -3 : 0);
            state("crust behind a talk", x, 3, 100 + t, t == 4 ? -3 : 0);
        }
        state("LAST is the greatest topic that it spoke of", x, 1, 283, 4);
        state("LAST is the greatest topic that it spoke of", x, 2, 283, 4);
    }

    /** The last house on all six topics: no topic is left, none comes behind them. */
    private static void talkOfTheLastHouse() {
        StringBuilder town = new StringBuilder("topics 6;" + "house 1 0;".repeat(8));
        for (int t = 0; t < 6; t++) {
            town.append("mind 7 ").append(t).append(view(t % 2 == 0 ? 1 + t / 2 : -1 - t / 2)).append(";mind 6 ").append(t).append(" for 1;");
        }
        BreadTalk x = Probe.withDays(town.toString(), "talk 7 3;talk 6 0;");
        P.due("Promise 10: the last house talks by the last oven", x.stop(0, 0), 2);
        for (int t = 0; t < 6; t++) {
            state("what the last house says on " + t, x, 2, 218 + t, t % 2 == 0 ? 1 + t / 2 : -1 - t / 2);
            state("what the one ahead of it says on " + t, x, 2, 200 + t, 1);
            state("nothing was PAST on " + t, x, 2, 240 + t, 0);
            state("by an oven of nobody on " + t, x, 2, 206 + t, 0);
        }
        state("LAST behind all six", x, 2, 283, 5);
        state("LAST behind all six", x, 2, 280, 5);
        // A mind of the next house on topic 0 is none of this house's on a seventh.
        BreadTalk y = Probe.withDays("topics 6;house 1 0;house 1 0;mind 1 0 for 2;", "talk 0 1;");
        state("a house without a mind says nothing", y, 1, 281, -1);
        state("a house without a mind says nothing", y, 1, 206, 0);
    }

    private static void sayOnTopics() {
        for (int topics = 1; topics <= 6; topics++) {
            for (int t = 0; t < 6; t++) {
                stop("topics " + topics + ";", "say 0 " + t + " for 1;", t < topics ? 1 : 0);
            }
        }
    }

    private static void noSuchHouse() {
        for (int houses = 0; houses <= 8; houses++) {
            String town = "house 1 0;".repeat(houses) + "loaf wafer 0;";
            for (int h = 0; h < 8; h++) {
                stop(town, "eat " + h + " 0;", h < houses ? 1 : 0);
                stop(town, "butter " + h + " 0;", h < houses ? 1 : 0);
                stop(town, "talk " + h + " 3;", h < houses ? 1 : 0);
            }
        }
    }

    private static void noSuchLoaf() {
        for (int told = 0; told <= 8; told++) {
            for (int baked = 0; baked <= 8; baked += 4) {
                String town = "house 1 0;" + "loaf wafer 0;".repeat(told);
                String before = "bake wafer 0;".repeat(baked) + "night;";
                for (int l = 0; l < 16; l++) {
                    stop(town, before + "eat 0 " + l + ";", l < told + baked ? baked + 2 : baked + 1);
                    stop(town, before + "butter 0 " + l + ";", l < told + baked ? baked + 2 : baked + 1);
                }
            }
        }
    }

    /** At most 16 in all, eaten and stale ones too. */
    private static void sixteenLoaves() {
        for (int told = 0; told <= 8; told++) {
            String town = "life 1;house 1 0;" + "loaf rye 0;".repeat(told);
            stop(town, "bake rye 0;".repeat(16 - told), 16 - told);
            stop(town, "bake rye 0;".repeat(17 - told), 16 - told);
            stop(town, "night;night;" + "bake rye 0;".repeat(17 - told), 18 - told);
            if (told > 0) {
                stop(town, "eat 0 0;" + "bake rye 0;".repeat(17 - told), 17 - told);
            }
            BreadTalk x = Probe.withDays(town, "bake wafer 3;".repeat(16 - told));
            state("sixteen loaves", x, 16 - told, 1, 16);
            state("the last one", x, 16 - told, 35, 0);
            state("no 17th", x, 16 - told, 36, -1000);
        }
    }

    private static void stops() {
        stop("", "", 0);
        stop("", "talk 0 0;", 0);
        stop("", "night;talk 0 0;night;", 1);
        stop("house 1 0;", "night;talk 0 0;night;", 3);
        stop("house 1 0;", "night;".repeat(39) + "talk 0 0;", 40);
        stop("house 1 0;", "night;".repeat(39) + "talk 1 0;", 39);
        stop("house 1 0;", "talk 1 0;" + "night;".repeat(39), 0);
    }

    /** A deed that can't be leaves all as it is: the state at STOP is that of the days that end ahead of it. */
    private static void refusedDeedLeaves() {
        String town = "topics 2;life 2;house 2 3;house 3 0;mind 0 0 for 1;mind 1 1 for 2;said 0 0 for 1;said 0 1 against 2;loaf wafer 0;loaf rye 0;";
        String before = "say 1 1 for 3;bake toast 1;night;";
        String[] deeds = {"say 1 2 for 3;", "eat 0 0;", "butter 0 0;", "eat 2 0;", "eat 0 3;", "talk 2 1;", "eat 1 0;"};
        for (String deed : deeds) {
            BreadTalk x = Probe.withDays(town, before + deed + "night;");
            BreadTalk y = Probe.withDays(town, before);
            P.due("Promise 10: " + deed + " can't be", x.stop(0, 0), 3);
            for (int what = 0; what < 430; what++) {
                P.due("Promise 11: ahead of " + deed + " what " + what, x.state(0, 0, 3, what), y.state(0, 0, 3, what));
                if (what % 48 == 47) {
                    // An object is asked 512 times at most.
                    x = Probe.withDays(town, before + deed + "night;");
                    y = Probe.withDays(town, before);
                }
            }
            for (int n = 4; n <= 6; n++) {
                state("no STATE behind STOP", x, n, 0, -1000);
            }
        }
    }

    private static void statesUpToStop() {
        BreadTalk x = Probe.withDays("", "night;night;");
        for (int n = -2; n < 5; n++) {
            state("n up to STOP", x, n, 0, n >= 0 && n <= 2 ? n : -1000);
        }
        BreadTalk y = Probe.withDays("", "talk 0 0;night;");
        for (int n = -1; n < 4; n++) {
            state("STOP 0", y, n, 0, n == 0 ? 0 : -1000);
        }
        BreadTalk z = Probe.withDays("", "night;".repeat(40));
        state("behind the last of forty", z, 40, 0, 40);
        state("behind all forty", z, 41, 0, -1000);
    }

    private static void tally() {
        for (int sign = -1; sign <= 1; sign++) {
            StringBuilder town = new StringBuilder("topics 1;" + "house 9 0;".repeat(8));
            for (int h = 0; h < 8; h++) {
                town.append("mind ").append(h).append(" 0").append(view(sign * (1 + h % 3))).append(';');
            }
            BreadTalk x = Probe.withDays(town.toString(), "");
            state("eight houses of 9 votes", x, 0, 10, 72 * sign);
        }
        BreadTalk y = Probe.withDays("house 9 0;house 4 0;house 5 0;mind 0 0 for 1;mind 1 0 against 3;mind 2 0 against 1;", "");
        state("even", y, 0, 10, 0);
        state("of nobody", Probe.withDays("", ""), 0, 12, 0);
        state("no such topic", Probe.withDays("", ""), 0, 13, -1000);
    }

    private static void oneMind() {
        String[] towns = {"", "house 1 0;mind 0 0 for 1;", "house 1 0;house 1 0;", "house 1 0;house 1 0;mind 0 0 for 1;mind 1 0 for 3;",
            "house 1 0;house 1 0;mind 0 0 for 1;", "house 1 0;house 1 0;mind 0 0 for 1;mind 1 0 against 1;",
            "house 1 0;house 1 0;house 1 0;mind 0 0 for 1;mind 2 0 against 1;mind 1 2 for 1;mind 2 2 against 3;",
            "house 1 0;house 1 0;mind 0 0 for 1;mind 1 0 against 1;mind 0 1 for 1;mind 1 1 against 1;mind 0 2 for 1;mind 1 2 against 1;"};
        int[] due = {3, 3, 3, 3, 3, 2, 1, 0};
        for (int i = 0; i < towns.length; i++) {
            state("ONE MIND of " + towns[i], Probe.withDays(towns[i], ""), 0, 3, due[i]);
        }
        state("of six topics", Probe.withDays("topics 6;", ""), 0, 3, 6);
        state("of one topic", Probe.withDays("topics 1;", ""), 0, 3, 1);
    }

    /** Every what about a town with all that may be, one with a topic less, and one with nothing. */
    private static void whatOfFullTown() {
        for (int topics = 5; topics <= 6; topics++) {
            for (int less = 0; less < 2; less++) {
                whats("topics " + topics + ";" + "house 1 0;".repeat(8 - less) + "loaf wafer 0;".repeat(8), "bake wafer 3;".repeat(8 - less),
                        topics, 8 - less, 16 - less);
            }
        }
    }

    private static void whatOfEmptyTown() {
        whats("", "", 3, 0, 0);
        whats("topics 1;house 1 0;loaf rye 0;", "", 1, 1, 1);
    }

    private static void whats(String town, String days, int topics, int houses, int loaves) {
        BreadTalk x = Probe.withDays(town, days);
        int n = x.stop(0, 0);
        for (int what = -5; what < 440; what++) {
            if (what % 50 == 49) {
                x = Probe.withDays(town, days);
            }
            boolean due = isAsked(what, topics, houses, loaves);
            String name = "what " + what + " with " + topics + " topics, " + houses + " houses, " + loaves + " loaves";
            P.due("Promise 11: " + name, x.state(0, 0, n, what) != -1000, due);
            P.due("Promise 24: " + name, x.drawn(0, 0, 0, what) != -1000, isAsked(what, topics, houses, x.town(0, 4)));
        }
    }

    private static boolean isAsked(int what, int topics, int houses, int loaves) {
        boolean asked = what >= 0 && what <= 3;
        for (int t = 0; t < topics; t++) {
            asked |= what == 10 + t;
            for (int i = 0; i < 16; i++) {
                asked |= i < houses && what == 40 + 6 * i + t;
                asked |= i < loaves && what == 100 + 6 * i + t;
                asked |= i < 4 && (what == 200 + 6 * i + t || what == 240 + 6 * i + t);
            }
        }
        for (int i = 0; i < loaves; i++) {
            asked |= what == 20 + i;
            for (int h = 0; h < houses; h++) {
                asked |= what == 300 + 16 * h + i;
            }
        }
        return asked || what >= 280 && what < 284;
    }

    private static void townsAndDays() {
        BreadTalk x = Probe.withDays("", "night;talk 0 0;");
        Probe.tell(x, 0, -1, "house 1 0;");
        Probe.tell(x, 1, -1, "talk 0 0;night;night;");
        int[][] due = {{1, 0}, {2, 3}};
        for (int town = -1; town < 3; town++) {
            for (int days = -1; days < 3; days++) {
                boolean there = town >= 0 && town < 2 && days >= 0 && days < 2;
                P.due("Promise 10: stop(" + town + ", " + days + ")", x.stop(town, days), there ? due[town][days] : -1);
                P.due("Promise 11: state(" + town + ", " + days + ", 0, 0)", x.state(town, days, 0, 0), there ? 0 : -1000);
            }
        }
    }

    private static void drawnTimes() {
        String town = "house 1 0;mind 0 0 for 2;said 1 1 for 3;loaf wafer 1;";
        BreadTalk x = Probe.withDays(town, "");
        for (int what = 0; what < 330; what++) {
            P.due("Promise 24: 0 times is as it begins, what " + what, x.drawn(0, 77, 0, what), Probe.withDays(town, "").state(0, 0, 0, what));
        }
        P.due("Promise 24: 60 times", x.drawn(0, 77, 60, 0) >= 0, true);
        P.due("Promise 24: 61 times", x.drawn(0, 77, 61, 0), -1000);
        P.due("Promise 24: -1 times", x.drawn(0, 77, -1, 0), -1000);
    }

    /** Numbers of 32 bits that wrap around, shifted without sign: the document's arithmetic once more, in 64 bits. */
    private static void drawnSeeds() {
        String text = "topics 6;life 1;house 3 0;house 2 1;house 1 2;mind 0 5 for 2;mind 1 3 against 1;said 0 5 for 3;said 1 3 against 3;loaf wafer 0;loaf toast 1;";
        Slow.Town town = new Slow.Town(Slow.parse(0, text));
        int[] seeds = {0, 1, -1, Integer.MIN_VALUE, Integer.MAX_VALUE, Integer.MIN_VALUE + 1, Integer.MAX_VALUE - 1, 0x8000, 0xffff, 0x10000, -0x10000};
        for (int seed : seeds) {
            for (int n : new int[] {0, 1, 2, 30, 59, 60}) {
                java.util.Map<Integer, Integer> due = Slow.drawn(town, seed, n).all();
                BreadTalk x = Probe.withTown(text);
                for (int what = 0; what < 430; what++) {
                    P.due("Promise 24: drawn(0, " + seed + ", " + n + ", " + what + ")", x.drawn(0, seed, n, what), due.getOrDefault(what, -1000));
                }
            }
        }
    }

    /** Without houses eat and talk draw nothing further: the numbers behind them stand for the next deeds. */
    private static void drawnWithoutHouses() {
        for (int seed = -20; seed < 20; seed++) {
            long[] x = {seed & 0xffffffffL};
            int nights = 0;
            int loaves = 0;
            int[] last = {-1, -1, -1, -1};
            for (int i = 0; i < 60; i++) {
                int sort = draw(x, 6);
                if (sort < 2) {
                    int oven = draw(x, 4);
                    last[oven] = draw(x, 3);
                    draw(x, 7);
                } else if (sort == 2) {
                    draw(x, 5);
                    draw(x, 4);
                    loaves = Math.min(16, loaves + 1);
                } else if (sort == 5) {
                    nights++;
                }
            }
            BreadTalk y = Probe.withTown("");
            P.due("Promise 24: nights without houses", y.drawn(0, seed, 60, 0), nights);
            P.due("Promise 24: loaves without houses", y.drawn(0, seed, 60, 1), loaves);
            P.due("Promise 24: nobody eats", y.drawn(0, seed, 60, 2), 0);
            for (int o = 0; o < 4; o++) {
                P.due("Promise 24: LAST without houses", y.drawn(0, seed, 60, 280 + o), last[o]);
            }
        }
    }

    /** One house is enough: its number, below 1, is drawn as any other is; it eats and talks. */
    private static void drawnOfOneHouse() {
        int eaten = 0;
        int talks = 0;
        for (int seed = -20; seed < 20; seed++) {
            long[] x = {seed & 0xffffffffL};
            int nights = 0;
            int left = 8;
            boolean[] spoke = new boolean[4];
            for (int i = 0; i < 8; i++) {
                int sort = draw(x, 6);
                if (sort < 2) {
                    spoke[draw(x, 4)] = true;
                    draw(x, 3);
                    draw(x, 7);
                } else if (sort == 2) {
                    draw(x, 5);
                    draw(x, 4);
                } else if (sort == 5) {
                    nights++;
                } else {
                    P.due("a number below 1", draw(x, 1), 0);
                    if (sort == 3) {
                        left--;
                    } else {
                        spoke[draw(x, 4)] = true;
                        talks++;
                    }
                }
            }
            eaten += 8 - left;
            // Wafers of nothing said: STUBBORN 0 agrees with each of them, no mind moves, none goes stale.
            BreadTalk y = Probe.withTown("house 1 0;mind 0 0 for 1;" + "loaf wafer 0;".repeat(8));
            P.due("Promise 24: nights of one house, seed " + seed, y.drawn(0, seed, 8, 0), nights);
            P.due("Promise 24: what one house eats, seed " + seed, y.drawn(0, seed, 8, 2), 8 - left);
            for (int l = 0; l < 8; l++) {
                P.due("Promise 24: the least ones, seed " + seed, y.drawn(0, seed, 8, 20 + l), l < 8 - left ? 3 : 1);
            }
            for (int o = 0; o < 4; o++) {
                P.due("Promise 24: by which oven one spoke, seed " + seed, y.drawn(0, seed, 8, 280 + o) >= 0, spoke[o]);
            }
        }
        P.due("Promise 24: some are eaten, some talk", eaten > 0 && talks > 0, true);
    }

    /** Of all loaves it may eat the least: not one of less with which it does not agree; without one nothing is eaten. */
    private static void drawnEatsTheLeast() {
        String town = "house 1 3;mind 0 0 for 2;said 0 0 for 1;said 1 0 for 2;loaf wafer 0;loaf wafer 3;loaf wafer 1;loaf wafer 1;";
        String none = "house 1 9;mind 0 0 for 2;said 0 0 for 3;" + "loaf wafer 0;".repeat(8);
        int found = 0;
        for (int seed = 0; seed < 64; seed++) {
            long[] x = {seed};
            if (draw(x, 6) != 3) {
                continue;
            }
            found++;
            int[] due = {1, 1, 3, 1};
            BreadTalk y = Probe.withTown(town);
            BreadTalk z = Probe.withTown(none);
            for (int l = 0; l < 4; l++) {
                P.due("Promise 24: the least it may eat, loaf " + l + ", seed " + seed, y.drawn(0, seed, 1, 20 + l), due[l]);
                P.due("Promise 24: none that it may eat, loaf " + l + ", seed " + seed, z.drawn(0, seed, 1, 20 + l), 1);
            }
            P.due("Promise 24: one is eaten, seed " + seed, y.drawn(0, seed, 1, 2), 1);
            P.due("Promise 24: none is eaten, seed " + seed, z.drawn(0, seed, 1, 2), 0);
            P.due("Promise 24: the mind stays, seed " + seed, z.drawn(0, seed, 1, 40), 2);
        }
        P.due("Promise 24: seeds that begin with a meal", found > 0, true);
    }

    private static int draw(long[] x, int n) {
        x[0] = (x[0] * 1103515245L + 12345L) & 0xffffffffL;
        return (int) ((x[0] >> 16) % n);
    }

    /** A 17th loaf is left, and the days go on behind it. */
    private static void drawnBakesNoMore() {
        BreadTalk x = Probe.withTown("house 1 0;" + "loaf wafer 0;".repeat(8));
        int full = 0;
        for (int seed = 0; seed < 200; seed++) {
            int loaves = x.drawn(0, seed, 60, 1);
            P.due("Promise 24: at most 16 loaves", loaves >= 8 && loaves <= 16, true);
            full += loaves == 16 ? 1 : 0;
            P.due("Promise 24: no 17th", x.drawn(0, seed, 60, 36), -1000);
        }
        P.due("Promise 24: some come to 16", full > 0, true);
    }
}
