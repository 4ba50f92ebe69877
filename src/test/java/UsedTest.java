import java.util.ArrayList;
import java.util.List;

/** A question leaves nothing behind: promises 6 to 28 asked of one town, days, plate behind each question about another. */
public final class UsedTest {
    private static final Probe P = new Probe();

    private static final String[] TOWNS = {
        // As much of all as goes into one text, minds and loaves on both sides.
        "topics 6;life 1;house 9 0;house 8 0;house 7 1;house 9 0;house 9 0;house 9 0;house 9 0;house 9 0;visit 0 1;visit 1 0;visit 7 0;"
            + "mind 0 0 for 3;mind 1 0 against 2;mind 7 5 for 3;said 0 0 for 3;said 0 5 for 3;said 1 0 against 3;said 1 1 for 2;said 1 5 against 1;"
            + "loaf wafer 0;loaf wafer 1;loaf toast 0;loaf toast 1;loaf wafer 0;loaf wafer 1;loaf crust 1;loaf rye 0;",
        "topics 2;house 1 0;mind 0 0 against 1;said 2 0 for 1;said 2 1 against 2;loaf wafer 2;loaf rye 2;",
        "house 2 0;house 3 1;visit 1 0;said 3 2 for 2;loaf wafer 3;loaf wafer 3;loaf bun 0;",
        "loaf wafer 0;loaf toast 1;loaf bun 2;",
        ""};
    private static final String[] DAYS = {
        "bake wafer 0;bake toast 0;bake wafer 1;bake wafer 1;bake wafer 0;bake wafer 0;bake wafer 0;bake wafer 0;night;butter 3 0;talk 0 2;night;eat 4 15;",
        "night;eat 0 2;", "night;butter 0 3;night;", "talk 0 1;bake crust 1;", ""};
    private static final String[] PLATES = {
        "topics 6;lies 9;crumb wafer 5 for 3;crumb toast 0 against 3;crumb bun 1 for 1;crumb wafer 5 against 1;crumb wafer 3 for 2;",
        "topics 2;crumb bun 1 for 1;", "topics 1;lies 1;crumb wafer 0 for 1;crumb wafer 0 for 2;", "crumb wafer 2 for 1;crumb wafer 2 for 3;", ""};

    private final List<String> names = new ArrayList<>();
    private final List<Survey.Call> calls = new ArrayList<>();

    private UsedTest(int of) {
        questionsOfTowns(of);
        questionsOfDays(of);
        questionsOfPlates(of);
    }

    public static void main(String[] args) {
        UsedTest first = new UsedTest(0);
        UsedTest second = new UsedTest(1);
        for (int one = 0; one < TOWNS.length; one++) {
            for (int other = 0; other < TOWNS.length; other++) {
                if (one != other) {
                    eachBehindEach(first, second, one, other);
                }
            }
        }
        deedsOfAnotherTown();
        loavesOfAnotherTown();
        P.end("UsedTest");
    }

    private static BreadTalk both(int one, int other) {
        BreadTalk x = new BreadTalk();
        for (int i : new int[] {one, other}) {
            Probe.tell(x, 0, -1, TOWNS[i]);
            Probe.tell(x, 1, -1, DAYS[i]);
            Probe.tell(x, 2, -1, PLATES[i]);
        }
        return x;
    }

    private static void eachBehindEach(UsedTest first, UsedTest second, int one, int other) {
        long[] due = new long[second.calls.size()];
        for (int q = 0; q < due.length; q++) {
            due[q] = second.calls.get(q).on(both(one, other));
        }
        for (int w = 0; w < first.calls.size(); w++) {
            BreadTalk x = both(one, other);
            for (int q = 0; q < due.length; q++) {
                if (q % 200 == 199) {
                    // An object is asked 512 times at most.
                    x = both(one, other);
                }
                first.calls.get(w).on(x);
                P.due(second.names.get(q) + " of " + other + " behind " + first.names.get(w) + " of " + one, second.calls.get(q).on(x), due[q]);
            }
        }
    }

    private void put(int promise, String name, Survey.Call call) {
        names.add("Promise " + promise + ": " + name);
        calls.add(call);
    }

    private void questionsOfTowns(int it) {
        for (int w = 0; w < 3; w++) {
            int what = w;
            put(12, "shares(.., 0, " + w + ")", x -> x.shares(it, 0, what));
            put(13, "feast(.., 0, 3, 0, " + w + ")", x -> x.feast(it, 0, 3, 0, what));
            put(14, "agree(.., " + w + ")", x -> x.agree(it, what));
            put(16, "visits(.., 0, " + w + ")", x -> x.visits(it, 0, what));
            put(15, "side(.., " + w + ", 0)", x -> x.side(it, what, 0));
            put(19, "rest(.., 0, " + (w - 1) + ")", x -> x.rest(it, 0, what - 1));
            put(27, "pivots(.., " + w + ")", x -> x.pivots(it, what));
            put(28, "sway(.., 0, " + w + ", true)", x -> x.sway(it, 0, what, true));
            put(6, "town(.., " + (20 + w) + ")", x -> x.town(it, 20 + what));
            put(7, "mind(.., 0, " + w + ")", x -> x.mind(it, 0, what));
            put(8, "said(.., 1, " + w + ")", x -> x.said(it, 1, what));
        }
        put(12, "shares(.., 5, 0)", x -> x.shares(it, 5, 0));
        put(13, "feast(.., 7, 63, 5, 2)", x -> x.feast(it, 7, 63, 5, 2));
        put(17, "sign(.., 0, 1, 3)", x -> x.sign(it, 0, 1, 3));
        put(18, "sales(.., 0, -1, 2, true)", x -> x.sales(it, 0, -1, 2, true));
        put(25, "apart(.., 0, 1)", x -> x.apart(it, 0, 1));
        put(26, "factions(.., 1, -1)", x -> x.factions(it, 1, -1));
        put(28, "sway(.., 7, 5, false)", x -> x.sway(it, 7, 5, false));
        for (int w : new int[] {0, 1, 2, 3, 10, 20, 24, 40, 100, 113, 200, 212, 240, 282, 300, 318}) {
            put(24, "drawn(.., 3, 60, " + w + ")", x -> x.drawn(it, 3, 60, w));
        }
    }

    private void questionsOfDays(int it) {
        put(9, "deed(.., 1, 1)", x -> x.deed(it, 1, 1));
        put(10, "stop", x -> x.stop(it, it));
        for (int n : new int[] {0, 1, 2, 11}) {
            for (int w : new int[] {0, 1, 2, 3, 10, 11, 20, 23, 40, 41, 100, 105, 118, 200, 205, 212, 240, 280, 282, 300, 303, 316}) {
                put(11, "state(.., " + n + ", " + w + ")", x -> x.state(it, it, n, w));
            }
        }
    }

    private void questionsOfPlates(int it) {
        for (int w : new int[] {0, 1, 2, 10, 11, 15, 20, 21, 25}) {
            put(21, "fits(.., " + w + ")", x -> x.fits(it, w));
        }
        put(20, "plate(.., 0, 2)", x -> x.plate(it, 0, 2));
        put(22, "jury(" + (5 + it) + ", 3, 7, false)", x -> x.jury(5 + it, 3, 7, false));
        put(23, "bound(" + (5 + it) + ", 7, 4)", x -> x.bound(5 + it, 7, 4));
    }

    /** A loaf that another town had, and had aged, is not there in this one: by hand, of each number there could be. */
    private static void deedsOfAnotherTown() {
        for (int loaves = 0; loaves <= 8; loaves++) {
            BreadTalk x = both(0, 4);
            Probe.tell(x, 0, 1, "house 1 0;" + "loaf wafer 0;".repeat(loaves));
            for (int l = 0; l < 16; l++) {
                Probe.tell(x, 1, 1, "eat 0 " + l + ";");
                P.due("Promise 10: a full town's days", x.stop(0, 0), 13);
                P.due("Promise 10: eat 0 " + l + " of " + loaves + " loaves", x.stop(1, 1), l < loaves ? 1 : 0);
                P.due("Promise 11: a full town's loaf", x.state(0, 0, 13, 20 + l) == -1000, false);
                P.due("Promise 11: loaf " + l + " of " + loaves, x.state(1, 1, 0, 20 + l), l < loaves ? 1 : -1000);
            }
        }
    }

    /** Loaves of another town help nobody: with each of theirs the house would agree, with its own it does not. */
    private static void loavesOfAnotherTown() {
        BreadTalk x = Probe.withTown("topics 2;house 9 0;said 0 0 for 3;said 0 1 for 3;said 1 0 against 3;" + "loaf wafer 0;".repeat(4) + "loaf wafer 1;".repeat(4));
        Probe.tell(x, 0, -1, "topics 2;house 1 2;mind 0 1 for 1;said 0 0 for 1;said 0 1 for 1;loaf wafer 0;");
        for (int i = 0; i < 2; i++) {
            P.due("Promise 28: by one's own loaves none", x.sway(1, 0, 0, true), -1);
            P.due("Promise 12: by one's own loaves none", x.shares(1, 0, 1), -1);
            P.due("Promise 14: one loaf clashes with none", x.agree(1, 2), 0);
            P.due("Promise 13: a loaf of the other town", x.feast(1, 0, 2, 0, 0), -1000);
            P.due("Promise 15: a loaf of the other town", x.side(1, 1, 0), -1);
            P.due("Promise 28: the other town's by its own", x.sway(0, 0, 0, true), 1);
            P.due("Promise 12: the other town's by its own", x.shares(0, 0, 2), 1);
            P.due("Promise 14: the other town's clash", x.agree(0, 2), 16);
        }
    }
}
