/** Boundary cases of plates and juries: promises 21 to 23; answers worked out by hand. */
public final class PlateEdgesTest {
    private static final Probe P = new Probe();

    public static void main(String[] args) {
        noCrumbs();
        oneCrumb();
        liesAtTheEdge();
        allLies();
        nothingFits();
        falseOfMany();
        leastAndMost();
        nextOfTies();
        nextOfEachView();
        nextOfEachTopic();
        nextOfOneRow();
        topicsOfPlates();
        platesApart();
        juryEdges();
        juryOfOne();
        juryInLeastTerms();
        jurySure();
        boundEdges();
        boundOfEvenErrors();
        P.end("PlateEdgesTest");
    }

    private static String view(int v) {
        return v < 0 ? " against " + -v : " for " + v;
    }

    private static void fits(String name, String plate, long... due) {
        BreadTalk x = Probe.withPlate(plate);
        String[] whats = {"FITS", "FALSE", "NEXT"};
        for (int what = 0; what < 3; what++) {
            P.due("Promise 21: " + name + ": " + whats[what], x.fits(0, what), due[what]);
        }
    }

    private static void range(String name, String plate, int topic, long least, long most) {
        BreadTalk x = Probe.withPlate(plate);
        P.due("Promise 21: " + name + ": LEAST", x.fits(0, 10 + topic), least);
        P.due("Promise 21: " + name + ": MOST", x.fits(0, 20 + topic), most);
    }

    /** All rows fit; of all kinds a wafer tells most, of all topics the first is told. */
    private static void noCrumbs() {
        long all = 1;
        for (int topics = 1; topics <= 6; topics++) {
            all *= 7;
            fits("no crumbs, " + topics + " topics", "topics " + topics + ";", all, 0, 24);
            fits("no crumbs, nine lies", "lies 9;topics " + topics + ";", all, 0, 24);
            for (int t = 0; t < 6; t++) {
                range("no crumbs, topic " + t + " of " + topics, "topics " + topics + ";", t, t < topics ? -3 : -9, t < topics ? 3 : -9);
            }
        }
    }

    /** Every kind with every view: what a loaf of it has; also views that none of it has. */
    private static void oneCrumb() {
        String[] kinds = {"bun", "toast", "wafer"};
        int[][] fitting = {{0, 0, 2, 3, 2, 0, 0}, {3, 0, 0, 1, 0, 0, 3}, {1, 1, 1, 1, 1, 1, 1}};
        int[][] least = {{-9, -9, -3, -1, 2, -9, -9}, {-3, -9, -9, 0, -9, -9, 1}, {-3, -2, -1, 0, 1, 2, 3}};
        int[][] most = {{-9, -9, -2, 1, 3, -9, -9}, {-1, -9, -9, 0, -9, -9, 3}, {-3, -2, -1, 0, 1, 2, 3}};
        for (int kind = 0; kind < 3; kind++) {
            for (int v = -3; v <= 3; v++) {
                String crumb = "topics 1;crumb " + kinds[kind] + " 0" + view(v) + ";";
                BreadTalk x = Probe.withPlate(crumb);
                int due = fitting[kind][v + 3];
                P.due("Promise 21: FITS of " + crumb, x.fits(0, 0), due);
                P.due("Promise 21: FALSE of " + crumb, x.fits(0, 1), due == 0 ? 1 : 0);
                P.due("Promise 21: LEAST of " + crumb, x.fits(0, 10), least[kind][v + 3]);
                P.due("Promise 21: MOST of " + crumb, x.fits(0, 20), most[kind][v + 3]);
                P.due("Promise 21: with a lie all rows fit " + crumb, Probe.withPlate("lies 1;" + crumb).fits(0, 0), 7);
            }
        }
    }

    /** LIES of them, or fewer: three crumbs that exclude one another, with 0 .. 3 lies. */
    private static void liesAtTheEdge() {
        String crumbs = "topics 1;crumb wafer 0 for 1;crumb wafer 0 for 2;crumb wafer 0 against 1;";
        long[] fits = {0, 0, 3, 7, 7, 7, 7, 7, 7, 7};
        for (int lies = 0; lies <= 9; lies++) {
            BreadTalk x = Probe.withPlate("lies " + lies + ";" + crumbs);
            P.due("Promise 21: FITS with " + lies + " lies", x.fits(0, 0), fits[lies]);
            P.due("Promise 21: FALSE with " + lies + " lies", x.fits(0, 1), 2);
            P.due("Promise 21: LEAST with " + lies + " lies", x.fits(0, 10), lies < 2 ? -9 : lies == 2 ? -1 : -3);
            P.due("Promise 21: MOST with " + lies + " lies", x.fits(0, 20), lies < 2 ? -9 : lies == 2 ? 2 : 3);
            P.due("Promise 21: NEXT with " + lies + " lies", x.fits(0, 2) == -9, lies < 2);
        }
    }

    /** Twelve crumbs that no loaf could have, and nine lies. */
    private static void allLies() {
        String crumb = "crumb bun 0 for 3;";
        for (int crumbs = 8; crumbs <= 12; crumbs++) {
            BreadTalk x = Probe.withPlate("topics 1;lies 9;" + crumb.repeat(crumbs));
            P.due("Promise 21: FITS of " + crumbs + " lies, 9 may be", x.fits(0, 0), crumbs <= 9 ? 7 : 0);
            P.due("Promise 21: FALSE of " + crumbs + " lies", x.fits(0, 1), crumbs);
            P.due("Promise 21: LEAST of " + crumbs + " lies", x.fits(0, 10), crumbs <= 9 ? -3 : -9);
        }
        fits("twelve that are true", "topics 6;" + "crumb wafer 5 for 3;".repeat(12), 16807, 0, 24);
        fits("twelve of which nine are true", "topics 1;lies 2;" + "crumb wafer 0 for 3;".repeat(9) + "crumb wafer 0 for 2;".repeat(3), 0, 3, -9);
        fits("twelve of which nine are true, three may lie", "topics 1;lies 3;" + "crumb wafer 0 for 3;".repeat(9) + "crumb wafer 0 for 2;".repeat(3), 1, 3, 6);
    }

    private static void nothingFits() {
        String none = "topics 6;crumb wafer 0 for 1;crumb wafer 0 for 2;";
        fits("nothing", none, 0, 1, -9);
        for (int t = 0; t < 7; t++) {
            range("nothing, topic " + t, none, t, -9, -9);
        }
    }

    /** FALSE is of any row, also where it is more than LIES; topics add up. */
    private static void falseOfMany() {
        String plate = "topics 2;crumb wafer 0 for 1;crumb wafer 0 for 2;crumb wafer 1 for 1;crumb wafer 1 for 2;crumb wafer 1 for 3;";
        for (int lies = 0; lies < 6; lies++) {
            BreadTalk x = Probe.withPlate(plate + "lies " + lies + ";");
            P.due("Promise 21: FALSE with " + lies + " lies", x.fits(0, 1), 3);
            P.due("Promise 21: FITS with " + lies + " lies", x.fits(0, 0), lies < 3 ? 0 : lies == 3 ? 6 : lies == 4 ? 6 + 5 * 3 + 2 * 4 : 49);
        }
    }

    private static void leastAndMost() {
        range("a bun of -1", "crumb bun 1 against 1;", 1, -3, -2);
        range("another topic", "crumb bun 1 against 1;", 0, -3, 3);
        range("the last topic of six", "topics 6;crumb toast 5 for 3;", 5, 1, 3);
        range("behind the last topic", "topics 5;", 5, -9, -9);
        range("no such topic", "topics 6;", 6, -9, -9);
        range("one view alone", "crumb wafer 2 for 0;", 2, 0, 0);
    }

    /** Of several the least number: BUN ahead of TOAST ahead of WAFER, then the topic. */
    private static void nextOfTies() {
        // Both 2 and 3 (bun 1): each of bun, toast has one view, so a wafer tells more.
        fits("a wafer alone tells", "topics 1;crumb bun 0 for 1;", 2, 0, 24);
        // -1, 0, 1: toast tells as much as wafer.
        fits("toast as well as wafer", "topics 1;crumb bun 0 for 0;", 3, 0, 18);
        // Topic 1 is known, topic 0 is one of three.
        fits("the topic that is open", "topics 2;crumb wafer 1 for 1;crumb bun 0 for 0;", 3, 0, 18);
        fits("the later topic that is open", "topics 2;crumb wafer 0 for 1;crumb bun 1 for 0;", 3, 0, 19);
        // 1 or 3 by a lie (two wafers that exclude each other): bun has 0 or 1.
        fits("bun as well as wafer", "topics 1;lies 1;crumb wafer 0 for 1;crumb wafer 0 for 3;", 2, 1, 6);
        // 1 or 3 of topic 5 alone: the lie is spent there.
        fits("bun of the last topic", "topics 6;lies 1;crumb wafer 5 for 1;crumb wafer 5 for 3;crumb wafer 0 for 0;crumb wafer 0 for 0;"
                + "crumb wafer 1 for 0;crumb wafer 1 for 0;crumb wafer 2 for 0;crumb wafer 2 for 0;crumb wafer 3 for 0;crumb wafer 3 for 0;"
                + "crumb wafer 4 for 0;crumb wafer 4 for 0;", 2, 1, 11);
    }

    /** The greatest number may be that of any VIEW, -3 and 3 too: it is had by 7 rows, each other one by 1. */
    private static void nextOfEachView() {
        for (int v = -3; v <= 3; v++) {
            // With the first crumb true the second may lie; 13 rows, of which a wafer has 7 at most, a bun or toast 8 or 9.
            String plate = "topics 2;lies 1;crumb wafer 0" + view(v) + ";crumb wafer 1 for 1;";
            // Toast of 0 is by itself: it tells as much as a wafer.
            fits("most have " + v, plate, 13, 0, v == 0 ? 18 : 24);
            range("most have " + v, plate, 0, -3, 3);
        }
    }

    /** All topics but one are known; of that one 2 and 3, or -1 to 1, or 1 and 3 are left: each kind of each topic may be the next. */
    private static void nextOfEachTopic() {
        for (int topics = 1; topics <= 6; topics++) {
            for (int open = 0; open < topics; open++) {
                StringBuilder known = new StringBuilder("topics " + topics + ";");
                for (int t = 0; t < topics; t++) {
                    known.append(t == open ? "" : "crumb wafer " + t + " for 1;crumb wafer " + t + " for 1;");
                }
                fits("a wafer of topic " + open + " of " + topics, known + "crumb bun " + open + " for 1;", 2, 0, 24 + open);
                fits("toast of topic " + open + " of " + topics, known + "crumb bun " + open + " for 0;", 3, 0, 18 + open);
                fits("a bun of topic " + open + " of " + topics, known + "lies 1;crumb wafer " + open + " for 1;crumb wafer " + open + " for 3;", 2, 1, 6 + open);
            }
        }
    }

    /** One row alone: whatever is tried tells nothing, so the least number of all. */
    private static void nextOfOneRow() {
        fits("one row", "topics 2;crumb wafer 0 for 1;crumb wafer 1 for 1;", 1, 0, 6);
        fits("one row of one topic", "topics 1;crumb toast 0 for 0;", 1, 0, 6);
    }

    private static void topicsOfPlates() {
        for (int topics = 1; topics <= 6; topics++) {
            BreadTalk x = Probe.withPlate("topics " + topics + ";");
            for (int what = -3; what < 40; what++) {
                boolean due = what >= 0 && what < 3 || what >= 10 && what < 10 + topics || what >= 20 && what < 20 + topics;
                P.due("Promise 21: fits(0, " + what + ") of " + topics + " topics", x.fits(0, what) != -9, due);
            }
        }
    }

    private static void platesApart() {
        BreadTalk x = Probe.withPlate("topics 2;");
        P.due("Promise 21: no second plate", x.fits(1, 0), -9);
        Probe.tell(x, 2, -1, "topics 1;crumb wafer 0 for 2;crumb wafer 0 for 1;lies 1;");
        P.due("Promise 21: the second", x.fits(1, 0), 2);
        P.due("Promise 21: the first", x.fits(0, 0), 49);
        P.due("Promise 21: the second again", x.fits(1, 20), 2);
        P.due("Promise 21: the first again", x.fits(0, 21), 3);
        P.due("Promise 21: no third", x.fits(2, 0), -9);
    }

    private static void juryEdges() {
        BreadTalk x = new BreadTalk();
        for (int n = -1; n <= 14; n++) {
            for (int k = -1; k <= 14; k += n % 3 == 0 ? 1 : 5) {
                for (int a = -1; a <= 11; a += 4) {
                    boolean due = n >= 1 && n <= 12 && k >= 0 && k <= 13 && a >= 0 && a <= 10;
                    P.due("Promise 22: jury(" + n + ", " + k + ", " + a + ", true)", x.jury(n, k, a, true) != -1, due);
                    P.due("Promise 22: jury(" + n + ", " + k + ", " + a + ", false)", x.jury(n, k, a, false) != -1, due);
                }
            }
            x = new BreadTalk();
        }
        for (int n = 1; n <= 12; n++) {
            for (int k = 0; k <= 13; k++) {
                if (k == 0 || k > n) {
                    P.due("Promise 22: " + k + " or more of " + n, x.jury(n, k, 7, false), k == 0 ? 1 : 0);
                    P.due("Promise 22: " + k + " or more of " + n + ", D", x.jury(n, k, 7, true), 1);
                }
            }
        }
    }

    private static void juryOfOne() {
        BreadTalk x = new BreadTalk();
        int[] above = {0, 1, 1, 3, 2, 1, 3, 7, 4, 9, 1};
        int[] under = {1, 10, 5, 10, 5, 2, 5, 10, 5, 10, 1};
        for (int a = 0; a <= 10; a++) {
            P.due("Promise 22: one by " + a, x.jury(1, 1, a, false), above[a]);
            P.due("Promise 22: one by " + a + ", D", x.jury(1, 1, a, true), under[a]);
        }
    }

    /** The greatest numbers there are: ten to the twelfth under the line. */
    private static void juryInLeastTerms() {
        BreadTalk x = new BreadTalk();
        P.due("Promise 22: one or more of twelve by 1", x.jury(12, 1, 1, false), 1000000000000L - 282429536481L);
        P.due("Promise 22: one or more of twelve by 1, D", x.jury(12, 1, 1, true), 1000000000000L);
        P.due("Promise 22: twelve of twelve by 1", x.jury(12, 12, 1, false), 1);
        P.due("Promise 22: twelve of twelve by 1, D", x.jury(12, 12, 1, true), 1000000000000L);
        P.due("Promise 22: twelve of twelve by 5", x.jury(12, 12, 5, false), 1);
        P.due("Promise 22: twelve of twelve by 5, D", x.jury(12, 12, 5, true), 4096);
        // 2510 of 4096: the half without the middle (924), and the middle.
        P.due("Promise 22: six or more of twelve by 5", x.jury(12, 6, 5, false), 1255);
        P.due("Promise 22: six or more of twelve by 5, D", x.jury(12, 6, 5, true), 2048);
        P.due("Promise 22: two of two by 2", x.jury(2, 2, 2, false), 1);
        P.due("Promise 22: two of two by 2, D", x.jury(2, 2, 2, true), 25);
        P.due("Promise 22: twelve of twelve by 8", x.jury(12, 12, 8, false), 16777216L);
        P.due("Promise 22: twelve of twelve by 8, D", x.jury(12, 12, 8, true), 244140625L);
    }

    private static void jurySure() {
        BreadTalk x = new BreadTalk();
        for (int n = 1; n <= 12; n++) {
            P.due("Promise 22: none is for it by 0", x.jury(n, 1, 0, false), 0);
            P.due("Promise 22: none is for it by 0, D", x.jury(n, 1, 0, true), 1);
            P.due("Promise 22: 0 or more by 0", x.jury(n, 0, 0, false), 1);
            P.due("Promise 22: all are for it by 10", x.jury(n, n, 10, false), 1);
            P.due("Promise 22: all are for it by 10, D", x.jury(n, n, 10, true), 1);
            P.due("Promise 22: more than all by 10", x.jury(n, n + 1, 10, false), 0);
        }
    }

    private static void boundEdges() {
        BreadTalk x = new BreadTalk();
        for (int n = -1; n <= 14; n++) {
            boolean due = n >= 1 && n <= 12;
            P.due("Promise 23: n " + n, x.bound(n, 6, 4) != -1, due);
        }
        for (int a = -2; a <= 12; a++) {
            boolean due = a >= 0 && a <= 10;
            P.due("Promise 23: a " + a, x.bound(5, a, 5) != -1, due);
            P.due("Promise 23: b " + a, x.bound(5, 5, a) != -1, due);
        }
        for (int n = 1; n <= 12; n++) {
            P.due("Promise 23: sure on both sides, of " + n, x.bound(n, 10, 0), 1);
            P.due("Promise 23: sure that all are, or one less likely, of " + n, x.bound(n, 10, 9), n);
            P.due("Promise 23: the wrong way, of " + n, x.bound(n, 0, 10), 0);
            P.due("Promise 23: one is enough where none else is, of " + n, x.bound(n, 1, 0), 1);
        }
    }

    /** Of several the least: where both are as likely it is 0, not n + 1, which is as good. */
    private static void boundOfEvenErrors() {
        BreadTalk x = new BreadTalk();
        for (int n = 1; n <= 12; n++) {
            for (int a = 0; a <= 10; a++) {
                P.due("Promise 23: as likely, of " + n + " by " + a, x.bound(n, a, a), 0);
            }
        }
        // Three by 8 and 2: k 2 is the middle.
        P.due("Promise 23: the middle of three", x.bound(3, 8, 2), 2);
        // Two by 8 and 2: k 1: 4 + 36 of 100; k 2: 36 + 4 of 100: as good, the least is told.
        P.due("Promise 23: two as good", x.bound(2, 8, 2), 1);
        P.due("Promise 23: one by 6, 5", x.bound(1, 6, 5), 1);
        P.due("Promise 23: one by 5, 6", x.bound(1, 5, 6), 0);
    }
}
