/** One method a promise: ordinary inputs, the edges that the document names, wrong inputs; answers worked out by hand. */
public final class PromisesTest {
    private static final Probe P = new Probe();

    /** Oven 1: topic 0: 1, then -3; topic 1: 2. Views: rye (1, 0), bun (-1, 1), crust (0, 2), toast (-3, 3), wafer (-3, 2), wafer (0, 0). */
    private static final String SIX = "topics 2;life 1;house 5 2;house 3 0;mind 0 0 for 2;mind 1 1 against 1;"
            + "said 1 0 for 1;said 1 0 against 3;said 1 1 for 2;"
            + "loaf rye 1;loaf bun 1;loaf crust 1;loaf toast 1;loaf wafer 1;loaf wafer 0;";

    public static void main(String[] args) {
        newObject();
        feed();
        end();
        text();
        faultsOfTowns();
        faultsOfDays();
        faultsOfPlates();
        fault();
        town();
        mind();
        said();
        deed();
        stop();
        stopEach();
        state();
        stateNights();
        stateButter();
        stateWrong();
        shares();
        feast();
        agree();
        side();
        visits();
        sign();
        sales();
        rest();
        plate();
        fits();
        jury();
        bound();
        drawn();
        apart();
        factions();
        pivots();
        sway();
        count();
        image();
        again();
        P.end("PromisesTest");
    }

    private static void newObject() {
        BreadTalk x = new BreadTalk();
        for (int sort = 0; sort < 3; sort++) {
            P.due("new count", x.count(sort), 0);
            P.due("new text in the place of one", x.text(sort, 0), -2);
        }
        P.due("new fault", x.fault(0), 0);
        P.due("new place", x.fault(1), -1);
        P.due("new end(0)", x.end(0), 0);
        P.due("new end(1)", x.end(1), -1);
        for (int k = -1; k < 4; k++) {
            P.due("new again", x.again(k), false);
        }
        P.due("NONE", BreadTalk.NONE, -1);
        P.due("new town", x.town(0, 0), -1);
        P.due("new mind", x.mind(0, 0, 0), -9);
        P.due("new said", x.said(0, 0, 0), -9);
        P.due("new deed", x.deed(0, -1, 0), -9);
        P.due("new stop", x.stop(0, 0), -1);
        P.due("new state", x.state(0, 0, 0, 0), -1000);
        P.due("new plate", x.plate(0, -1, 0), -9);
        P.due("new fits", x.fits(0, 0), -9);
    }

    private static void feed() {
        BreadTalk x = new BreadTalk();
        P.due("feed", x.feed(0x6c696665, 0x20373b0a, 0x20202020, 0x0a0a2020, 0x20202020), 20);
        P.due("text of feed", x.text(0, -1), 0);
        P.due("life as fed", x.town(0, 1), 7);
        for (int i = 1; i <= 30; i++) {
            P.due("feed", x.feed(-1, i, -i, 0, 1 << 31), i * 20);
        }
        P.due("feed beyond 600", x.feed(0, 0, 0, 0, 0), -1);
        P.due("all 600", x.end(601), -1);
        P.due("all 600", x.end(600), 600);
        P.due("581", x.end(581), 581);
        P.due("feed to 601", x.feed(0, 0, 0, 0, 0), -1);
        P.due("580", x.end(580), 580);
        P.due("feed to 600", x.feed(0, 0, 0, 0, 0), 600);
        P.due("high byte", x.text(0, -1), -1);
        P.due("high byte", x.fault(0), 1);
        P.due("high byte", x.fault(1), 0);
        P.due("taken", x.end(1), -1);
        String full = "night;".repeat(39) + " ".repeat(600 - 40 * 6) + "night;";
        P.due("a text of 600", Probe.tell(x, 1, -1, full), 0);
        P.due("a text of 600", x.deed(0, -1, 0), 40);
    }

    private static void end() {
        BreadTalk x = new BreadTalk();
        Probe.put(x, "life 4;life 5;life 6;");
        P.due("end below 0", x.end(-1), -1);
        P.due("end far below 0", x.end(Integer.MIN_VALUE), -1);
        P.due("end beyond", x.end(22), -1);
        P.due("end at all", x.end(21), 21);
        P.due("end", x.end(14), 14);
        P.due("end further on", x.end(15), -1);
        P.due("text", x.text(0, -1), 0);
        P.due("life", x.town(0, 1), 5);
    }

    private static void text() {
        BreadTalk x = new BreadTalk();
        for (int sort = 0; sort < 3; sort++) {
            P.due("first", Probe.tell(x, sort, -1, ""), 0);
            P.due("second", Probe.tell(x, sort, -1, " \n"), 1);
            P.due("third", Probe.tell(x, sort, -1, "@"), -2);
            P.due("no text is read", x.fault(0), 0);
            P.due("no text is read", x.fault(1), -1);
            P.due("taken without being read", x.end(1), -1);
            nothingRead(x, sort, 2);
            nothingRead(x, sort, -2);
            nothingRead(x, sort, Integer.MIN_VALUE);
            nothingRead(x, sort, Integer.MAX_VALUE);
            P.due("a fault", Probe.tell(x, sort, 1, "@"), -1);
            P.due("a fault", x.fault(0), 1);
            P.due("taken with a fault", x.end(1), -1);
            P.due("no more", x.count(sort), 2);
        }
        for (int at = -1; at < 2; at++) {
            nothingRead(x, 3, at);
            nothingRead(x, -1, at);
        }
        nothingReadOfNew();
        P.due("in the place of one", Probe.tell(x, 0, 1, "life 9;life 8;"), 1);
        P.due("later ones strike", x.town(1, 1), 8);
        P.due("the other stays", x.town(0, 1), 3);
        P.due("a fault in the place of one", Probe.tell(x, 0, 1, "life 7;x"), -1);
        P.due("it stays", x.town(1, 1), 8);
        P.due("a fault in the place of one", Probe.tell(x, 1, 1, "night;eat 9 9;"), -1);
        P.due("it stays", x.deed(1, -1, 0), 0);
        P.due("an empty one", Probe.tell(x, 0, 1, ""), 1);
        P.due("nothing is left", x.town(1, 1), 3);
        P.due("sorts are apart", x.count(2), 2);
    }

    /** Every text() that answers -2 takes the tape, unread: FAULT 0, and what comes next comes onto an empty tape. */
    private static void nothingRead(BreadTalk x, int sort, int at) {
        String call = "text(" + sort + ", " + at + ")";
        Probe.tell(x, 0, 0, "@");
        P.due("a fault ahead of " + call, x.fault(0), 1);
        P.due("fed ahead of " + call, x.feed(0, 0, 0, 0, 0), 20);
        P.due("nothing read by " + call, x.text(sort, at), -2);
        P.due("fault of " + call, x.fault(0), 0);
        P.due("place of " + call, x.fault(1), -1);
        P.due("tape behind " + call, x.end(1), -1);
        P.due("fed behind " + call, x.feed(0, 0, 0, 0, 0), 20);
        P.due("cut behind " + call, x.end(0), 0);
    }

    private static void nothingReadOfNew() {
        for (int sort = 0; sort < 3; sort++) {
            BreadTalk x = new BreadTalk();
            P.due("fed", x.feed(0, 0, 0, 0, 0), 20);
            P.due("none such", x.text(sort, 0), -2);
            P.due("fed behind it", x.feed(0, 0, 0, 0, 0), 20);
            P.due("no such sort", x.text(3 + sort, -1), -2);
            P.due("a text of nothing", x.text(sort, -1), 0);
        }
    }

    private static void faulty(int sort, String text, int fault, int place) {
        BreadTalk x = new BreadTalk();
        P.due("text " + sort + ": " + text, Probe.tell(x, sort, -1, text), fault == 0 ? 0 : -1);
        P.due("fault of " + sort + ": " + text, x.fault(0), fault);
        P.due("place of " + sort + ": " + text, x.fault(1), place);
        P.due("count of " + sort + ": " + text, x.count(sort), fault == 0 ? 1 : 0);
    }

    private static void good(int sort, String text) {
        faulty(sort, text, 0, -1);
    }

    private static void faultsOfTowns() {
        good(0, "");
        good(0, " \n \n");
        good(0, "topics3;house1 0;house 9 9;visit0 1;mind 0 0for 1;loaf rye0;");
        good(0, "topics\n3\n;\n");
        good(0, "topics 06;life 09;");
        good(0, "visit 0 1;mind 1 5 for 0;said 0 5 for 3;house 1 0;house 1 0;topics 6;");
        faulty(0, ";", 1, 0);
        faulty(0, "topics", 1, 6);
        faulty(0, "topics 3", 1, 8);
        faulty(0, "topics 3  ", 1, 10);
        faulty(0, "topics 3;;", 1, 9);
        faulty(0, "Topics 3;", 1, 0);
        faulty(0, "topic 3;", 1, 0);
        faulty(0, "topicss 3;", 1, 0);
        faulty(0, "topics life;", 1, 7);
        faulty(0, "topics 3 3;", 1, 9);
        faulty(0, "topics 123;", 1, 7);
        faulty(0, "  123", 1, 2);
        faulty(0, "topics\t3;", 1, 6);
        faulty(0, "topics 3;\r", 1, 9);
        faulty(0, "topics 3;\0", 1, 9);
        faulty(0, "life 3;" + (char) 200, 1, 7);
        faulty(0, "house 12;", 1, 8);
        faulty(0, "loaf pie 0;", 1, 5);
        faulty(0, "loaf 0 rye;", 1, 5);
        faulty(0, "loaf bunz 0;", 1, 5);
        faulty(0, "loaf abun 0;", 1, 5);
        faulty(0, "mind 0 0 1;", 1, 9);
        faulty(0, "mind 0 0 rye 1;", 1, 9);
        faulty(0, "mind 0 0 for against 1;", 1, 13);
        faulty(0, "lies 1;", 1, 0);
        faulty(0, "night;", 1, 0);
        faulty(0, "crumb bun 0 for 1;", 1, 0);
        faulty(0, "rye;", 1, 0);
        faulty(0, "topics 0;", 2, 7);
        faulty(0, "topics 7;", 2, 7);
        faulty(0, "life 0;", 2, 5);
        faulty(0, "life 10;", 2, 5);
        faulty(0, "house 0 0;", 2, 6);
        faulty(0, "house 10 0;", 2, 6);
        faulty(0, "house 1 10;", 2, 8);
        faulty(0, "visit 8 0;", 2, 6);
        faulty(0, "visit 0 8;", 2, 8);
        faulty(0, "visit 3 3;", 2, 8);
        faulty(0, "visit 3 03;", 2, 8);
        faulty(0, "visit 8 8;", 2, 6);
        faulty(0, "mind 8 0 for 1;", 2, 5);
        faulty(0, "mind 0 6 for 1;", 2, 7);
        faulty(0, "mind 0 0 for 4;", 2, 13);
        faulty(0, "mind 0 0 against 4;", 2, 17);
        faulty(0, "said 4 0 for 1;", 2, 5);
        faulty(0, "said 0 6 for 1;", 2, 7);
        faulty(0, "said 0 0 for 4;", 2, 13);
        faulty(0, "loaf rye 4;", 2, 9);
        faulty(0, "topics 7;life 0;", 2, 7);
        faulty(0, "topics 7;life", 1, 13);
        faulty(0, "topics 7;x", 1, 9);
        faulty(0, "topics 7 7;", 1, 9);
        faulty(0, "house 1 0;".repeat(9), 3, 80);
        faulty(0, "house 1 0;".repeat(8) + "house 0 0;", 3, 80);
        faulty(0, "house 1 0;".repeat(7) + "house 0 0;house 1 0;", 2, 76);
        faulty(0, "house 1 0;".repeat(9) + "x", 1, 90);
        good(0, "house 1 0;".repeat(8));
        faulty(0, "said 0 0 for 1;".repeat(12) + " said 0 0 for 1;", 3, 181);
        good(0, "said 0 0 for 1;".repeat(12));
        faulty(0, "loaf rye 0;".repeat(9), 3, 88);
        good(0, "loaf rye 0;".repeat(8));
        faulty(0, "mind 0 0 for 1;", 4, 15);
        faulty(0, "house 1 0;visit 0 1;", 4, 20);
        faulty(0, "house 1 0;visit 1 0; ", 4, 21);
        faulty(0, "mind 0 3 for 0;", 4, 15);
        faulty(0, "said 0 3 for 1;", 5, 15);
        faulty(0, "house 1 0;mind 0 3 for 0;\n", 5, 26);
        faulty(0, "topics 6;said 0 5 for 1;topics 5;", 5, 33);
        faulty(0, "mind 0 0 for 1;life 0;", 2, 20);
        good(0, "visit 0 1;".repeat(40) + "house 1 1;house 1 1;");
    }

    private static void faultsOfDays() {
        good(1, "");
        good(1, "say 3 5 for 3;bake wafer 3;eat 7 15;butter 7 15;talk 7 3;night;");
        good(1, "night;".repeat(40));
        faulty(1, "night;".repeat(40) + "say 9 9 for 9;", 3, 240);
        faulty(1, "eat 8 0;", 2, 4);
        faulty(1, "eat 0 16;", 2, 6);
        faulty(1, "butter 8 0;", 2, 7);
        faulty(1, "butter 0 16;", 2, 9);
        faulty(1, "talk 8 0;", 2, 5);
        faulty(1, "talk 0 4;", 2, 7);
        faulty(1, "say 4 0 for 1;", 2, 4);
        faulty(1, "say 0 6 for 1;", 2, 6);
        faulty(1, "say 0 0 for 4;", 2, 12);
        faulty(1, "bake rye 4;", 2, 9);
        faulty(1, "bake 0 rye;", 1, 5);
        faulty(1, "night 1;", 1, 6);
        faulty(1, "night", 1, 5);
        faulty(1, "topics 3;", 1, 0);
        faulty(1, "eat 8 0;night;eat 0;", 1, 19);
        faulty(1, "for 1;", 1, 0);
    }

    private static void faultsOfPlates() {
        good(2, "");
        good(2, "topics 6;lies 9;crumb bun 5 for 1;crumb toast 0 against 3;crumb wafer 1 for 0;");
        faulty(2, "topics 0;", 2, 7);
        faulty(2, "topics 7;", 2, 7);
        faulty(2, "lies 10;", 2, 5);
        faulty(2, "crumb rye 0 for 1;", 1, 6);
        faulty(2, "crumb crust 0 for 1;", 1, 6);
        faulty(2, "crumb bun 6 for 1;", 2, 10);
        faulty(2, "crumb bun 0 for 4;", 2, 16);
        faulty(2, "crumb bun 3 for 1;", 5, 18);
        faulty(2, "crumb bun 3 for 1;topics 4;topics 3;", 5, 36);
        good(2, "crumb bun 3 for 1;topics 4;");
        faulty(2, "life 3;", 1, 0);
        faulty(2, "crumb bun 0 for 1;".repeat(13), 3, 216);
        good(2, "crumb bun 0 for 1;".repeat(12));
    }

    private static void fault() {
        BreadTalk x = new BreadTalk();
        Probe.tell(x, 0, -1, "life 0;");
        P.due("fault", x.fault(0), 2);
        P.due("place", x.fault(1), 5);
        P.due("fault(2)", x.fault(2), -1);
        P.due("fault(-1)", x.fault(-1), -1);
        x.feed(0, 0, 0, 0, 0);
        x.end(3);
        x.count(0);
        P.due("fault stays", x.fault(0), 2);
        x.text(0, 5);
        P.due("fault of the latest", x.fault(0), 0);
        P.due("place of the latest", x.fault(1), -1);
    }

    private static void town() {
        BreadTalk x = Probe.withTown(SIX + "visit 0 1;visit 0 1;");
        int[] sizes = {2, 1, 2, 3, 6, -1, -1, -1, -1, -1, 5, 3, -1};
        for (int what = 0; what < sizes.length; what++) {
            P.due("town(0, " + what + ")", x.town(0, what), sizes[what]);
        }
        P.due("stubborn", x.town(0, 20), 2);
        P.due("stubborn", x.town(0, 21), 0);
        P.due("stubborn", x.town(0, 22), -1);
        P.due("visits", x.town(0, 30), 2);
        P.due("visits", x.town(0, 31), 0);
        P.due("visits", x.town(0, 32), -1);
        int[] kinds = {0, 1, 2, 3, 4, 4, -1};
        int[] ovens = {1, 1, 1, 1, 1, 0, -1};
        for (int l = 0; l < kinds.length; l++) {
            P.due("kind", x.town(0, 40 + l), kinds[l]);
            P.due("oven", x.town(0, 50 + l), ovens[l]);
        }
        P.due("another what", x.town(0, 60), -1);
        P.due("another what", x.town(0, -1), -1);
        P.due("another what", x.town(0, Integer.MAX_VALUE), -1);
        P.due("another what", x.town(0, Integer.MIN_VALUE), -1);
        P.due("no town", x.town(1, 0), -1);
        P.due("no town", x.town(-1, 0), -1);
        P.due("at first", Probe.withTown("").town(0, 0), 3);
        P.due("at first", Probe.withTown("").town(0, 1), 3);
        BreadTalk y = Probe.withTown("house 1 1;house 2 2;house 3 3;visit 0 1;visit 0 2;visit 2 0;");
        P.due("two visits", y.town(0, 30), 6);
        P.due("one visit", y.town(0, 32), 1);
    }

    private static void mind() {
        BreadTalk x = Probe.withTown(SIX + "mind 0 1 for 1;mind 0 1 against 3;mind 1 0 against 0;");
        P.due("mind", x.mind(0, 0, 0), 2);
        P.due("later ones strike", x.mind(0, 0, 1), -3);
        P.due("mind", x.mind(0, 1, 0), 0);
        P.due("mind", x.mind(0, 1, 1), -1);
        P.due("no topic", x.mind(0, 0, 2), -9);
        P.due("no topic", x.mind(0, 0, -1), -9);
        P.due("no house", x.mind(0, 2, 0), -9);
        P.due("no house", x.mind(0, -1, 0), -9);
        P.due("no town", x.mind(1, 0, 0), -9);
        P.due("no town", x.mind(-1, 0, 0), -9);
    }

    private static void said() {
        BreadTalk x = Probe.withTown(SIX);
        int[] rows = {1, 0, 1, 1, 0, -3, 1, 1, 2};
        for (int i = 0; i < 9; i++) {
            P.due("said", x.said(0, i / 3, i % 3), rows[i]);
        }
        P.due("no such", x.said(0, 3, 0), -9);
        P.due("no such", x.said(0, -1, 0), -9);
        P.due("another what", x.said(0, 0, 3), -9);
        P.due("another what", x.said(0, 0, -1), -9);
        P.due("no town", x.said(1, 0, 0), -9);
    }

    private static void deed() {
        BreadTalk x = Probe.withDays("", "say 3 5 against 2;bake crust 2;eat 7 15;butter 1 2;talk 3 1;night;");
        int[] rows = {0, 3, 5, -2, 1, 2, 2, -8, 2, 7, 15, -8, 3, 1, 2, -8, 4, 3, 1, -8, 5, -8, -8, -8};
        for (int i = 0; i < rows.length; i++) {
            P.due("deed " + i / 4 + " " + i % 4, x.deed(0, i / 4, i % 4), rows[i]);
        }
        P.due("how many", x.deed(0, -1, 0), 6);
        P.due("how many, another what", x.deed(0, -1, 1), -9);
        P.due("no such", x.deed(0, 6, 0), -9);
        P.due("no such", x.deed(0, -2, 0), -9);
        P.due("another what", x.deed(0, 0, 4), -9);
        P.due("another what", x.deed(0, 0, -1), -9);
        P.due("no days", x.deed(1, 0, 0), -9);
        P.due("no days", x.deed(-1, -1, 0), -9);
    }

    private static void stop() {
        BreadTalk x = Probe.withDays(SIX, "eat 0 0;talk 0 2;bake wafer 2;eat 1 6;");
        P.due("stop: baked today", x.stop(0, 0), 3);
        P.due("no town", x.stop(1, 0), -1);
        P.due("no town", x.stop(-1, 0), -1);
        P.due("no days", x.stop(0, 1), -1);
        P.due("no days", x.stop(0, -1), -1);
        P.due("state at stop", x.state(0, 0, 3, 1), 7);
        P.due("no state behind stop", x.state(0, 0, 4, 1), -1000);
    }

    private static void stopAt(String town, String days, int stop) {
        P.due("stop of " + days, Probe.withDays(town, days).stop(0, 0), stop);
    }

    private static void stopEach() {
        stopAt(SIX, "", 0);
        stopAt(SIX, "night;night;", 2);
        stopAt(SIX, "say 0 1 for 1;say 0 2 for 1;", 1);
        stopAt(SIX, "talk 1 0;talk 2 0;", 1);
        stopAt(SIX, "eat 2 0;", 0);
        stopAt(SIX, "eat 0 6;", 0);
        stopAt(SIX, "eat 0 1;", 0);
        stopAt(SIX, "eat 1 0;eat 0 0;", 1);
        stopAt(SIX, "butter 1 0;butter 1 0;", 1);
        stopAt(SIX, "night;eat 0 0;", 1);
        stopAt(SIX, "night;night;eat 1 5;", 3);
        stopAt(SIX, "bake rye 0;".repeat(11), 10);
        stopAt(SIX, "eat 1 5;" + "bake rye 0;".repeat(11), 11);
        stopAt("life 9;house 1 9;loaf rye 0;", "night;".repeat(8) + "eat 0 0;", 9);
        stopAt("life 9;house 1 9;loaf rye 0;", "night;".repeat(9) + "eat 0 0;", 9);
        stopAt("life 9;house 1 9;loaf rye 0;", "night;".repeat(9) + "eat 0 1;", 9);
        stopAt("life 1;house 1 0;", "bake bun 1;night;eat 0 0;", 3);
        stopAt("life 1;house 1 0;", "bake bun 1;night;night;eat 0 0;", 3);
        BreadTalk x = Probe.withDays("house 1 0;loaf wafer 0;loaf wafer 0;", "eat 0 1;");
        Probe.tell(x, 0, -1, "house 1 0;loaf wafer 0;");
        P.due("with a second loaf", x.stop(0, 0), 1);
        P.due("as it begins", x.state(0, 0, 0, 1), 2);
        P.due("without, behind a town that has it", x.stop(1, 0), 0);
    }

    private static void states(BreadTalk x, int n, int from, int... want) {
        for (int i = 0; i < want.length; i++) {
            P.due("state(0, 0, " + n + ", " + (from + i) + ")", x.state(0, 0, n, from + i), want[i]);
        }
    }

    private static void state() {
        BreadTalk x = Probe.withDays(SIX, "eat 0 0;talk 0 2;bake wafer 2;");
        states(x, 0, 0, 0, 6, 0, 2, -1000);
        states(x, 0, 10, 5, -3, -1000);
        states(x, 0, 20, 1, 1, 1, 1, 1, 1, -1000);
        states(x, 0, 40, 2, 0, -1000, -1000, -1000, -1000, 0, -1, -1000);
        int[][] views = {{1, 0}, {-1, 1}, {0, 2}, {-3, 3}, {-3, 2}, {0, 0}};
        for (int l = 0; l < 6; l++) {
            states(x, 0, 100 + 6 * l, views[l][0], views[l][1], -1000);
        }
        states(x, 0, 136, -1000);
        states(x, 0, 200, 0, 0, -1000, -1000, -1000, -1000, -3, 2);
        states(x, 0, 240, 0, 0, -1000, -1000, -1000, -1000, 1, 0);
        states(x, 0, 218, 0, 0, -1000, -1000, -1000, -1000, -1000);
        states(x, 0, 280, -1, 1, -1, -1, -1000);
        states(x, 0, 300, 1, 0, 0, 0, 0, 0, -1000);
        states(x, 0, 316, 1, 0, 0, 0, 0, 1, -1000);
        states(x, 0, 332, -1000);
        states(x, 1, 2, 1);
        states(x, 1, 20, 3, 1);
        states(x, 1, 40, 1, 0);
        states(x, 1, 300, 0);
        states(x, 2, 212, 1, 0);
        states(x, 2, 252, 0, 0);
        states(x, 2, 282, 0);
        states(x, 3, 1, 7, 1);
        states(x, 3, 26, 0);
        states(x, 3, 136, 1, 0);
        states(x, 3, 306, 0);
        states(x, 3, 322, 1);
        BreadTalk y = Probe.withDays("house 2 0;house 3 0;house 4 0;mind 0 0 for 1;mind 1 0 against 3;mind 2 1 for 2;", "talk 0 3;talk 1 3;talk 2 3;bake rye 3;bake bun 3;bake crust 3;bake toast 3;bake wafer 3;");
        states(y, 0, 3, 2);
        states(y, 0, 10, -1, 4, 0, -1000);
        states(y, 3, 218, -3, 2, 0, -1000);
        states(y, 3, 258, 1, 0, 0, -1000);
        states(y, 3, 283, 1);
        states(y, 8, 100, 1, 0, 0);
        states(y, 8, 106, -1, 1, 0);
        states(y, 8, 112, 0, 2, 0);
        states(y, 8, 118, -3, 3, 0);
        states(y, 8, 124, -3, 2, 0);
        states(Probe.withDays("", ""), 0, 3, 3);
    }

    private static void stateNights() {
        BreadTalk x = Probe.withDays("life 2;house 1 0;loaf rye 0;loaf wafer 0;", "bake bun 0;night;eat 0 0;night;night;");
        states(x, 0, 20, 1, 1);
        states(x, 1, 20, 1, 1, 0);
        states(x, 2, 20, 1, 1, 1);
        states(x, 3, 20, 3, 1, 1);
        states(x, 4, 20, 3, 1, 1);
        states(x, 5, 20, 3, 1, 2);
        states(x, 5, 0, 3, 3, 1, 3);
        BreadTalk y = Probe.withDays("life 2;loaf rye 0;", "night;night;");
        states(y, 1, 20, 1);
        states(y, 2, 20, 2);
    }

    private static void stateButter() {
        String town = "house 1 0;said 0 0 for 3;said 0 1 against 1;said 0 2 for 0;mind 0 0 for 2;mind 0 1 for 2;mind 0 2 for 3;loaf wafer 0;loaf wafer 0;";
        BreadTalk x = Probe.withDays(town, "butter 0 0;butter 0 1;");
        states(x, 1, 40, 3, 0, 3);
        states(x, 2, 40, 3, -1, 3);
        BreadTalk y = Probe.withDays(town, "eat 0 0;eat 0 1;");
        states(y, 1, 40, 3, 1, 3);
        states(y, 2, 40, 3, 0, 3);
    }

    private static void stateWrong() {
        BreadTalk x = Probe.withDays(SIX, "night;");
        P.due("no town", x.state(1, 0, 0, 0), -1000);
        P.due("no days", x.state(0, 1, 0, 0), -1000);
        P.due("n below 0", x.state(0, 0, -1, 0), -1000);
        P.due("n beyond", x.state(0, 0, 2, 0), -1000);
        int[] wrong = {-1, 4, 9, 12, 16, 19, 36, 39, 52, 88, 99, 196, 199, 224, 239, 264, 279, 284, 299, 428, 1000, Integer.MAX_VALUE, Integer.MIN_VALUE};
        for (int what : wrong) {
            P.due("state what " + what, x.state(0, 0, 0, what), -1000);
        }
        String full = "topics 6;" + "house 1 0;".repeat(8) + "mind 7 5 for 2;said 3 5 against 3;" + "loaf wafer 3;".repeat(8);
        BreadTalk y = Probe.withDays(full, "bake wafer 3;".repeat(8));
        P.due("last tally", y.state(0, 0, 8, 15), 1);
        P.due("last loaf", y.state(0, 0, 8, 35), 0);
        P.due("last mind", y.state(0, 0, 8, 87), 2);
        P.due("last view", y.state(0, 0, 8, 195), -3);
        P.due("last latest", y.state(0, 0, 8, 223), -3);
        P.due("last past", y.state(0, 0, 8, 263), 0);
        P.due("last topic", y.state(0, 0, 8, 283), 5);
        P.due("last agrees", y.state(0, 0, 8, 427), 0);
        P.due("agrees", y.state(0, 0, 8, 411), 1);
        for (int what : new int[] {16, 36, 88, 196, 224, 264, 284, 428}) {
            P.due("state what " + what, y.state(0, 0, 8, what), -1000);
        }
    }

    private static void shares() {
        // Loaves: (1), (-1), (3) on topic 0; house 0 stands at -1, so it takes the second alone; house 1 is open.
        String town = "topics 1;house 5 0;house 3 0;mind 0 0 against 1;said 0 0 for 1;loaf wafer 0;loaf wafer 1;said 0 0 for 1;";
        BreadTalk x = Probe.withTown(town);
        P.due("greatest", x.shares(0, 0, 0), -2);
        P.due("none", x.shares(0, 0, 1), -1);
        P.due("none", x.shares(0, 0, 2), -1);
        BreadTalk y = Probe.withTown("topics 2;house 5 0;house 6 2;mind 0 0 against 1;mind 1 1 for 1;said 0 0 for 2;said 0 1 for 2;loaf rye 0;loaf wafer 0;loaf wafer 0;");
        P.due("greatest", y.shares(0, 0, 0), 1);
        P.due("fewest", y.shares(0, 0, 1), 1);
        P.due("which", y.shares(0, 0, 2), 2);
        P.due("all at once", y.shares(0, 1, 1), 0);
        P.due("all at once", y.shares(0, 1, 2), 0);
        P.due("no topic", y.shares(0, 2, 0), -1000);
        P.due("no topic", y.shares(0, -1, 1), -1000);
        P.due("no town", y.shares(1, 0, 0), -1000);
        P.due("another what", y.shares(0, 0, 3), -1000);
        P.due("another what", y.shares(0, 0, -1), -1000);
        BreadTalk z = Probe.withTown("loaf rye 0;");
        P.due("no houses", z.shares(0, 0, 0), 0);
        P.due("no houses", z.shares(0, 0, 1), -1);
        // By numbers: the house must have the second loaf's mind first, so it never takes the first behind it.
        BreadTalk w = Probe.withTown("topics 2;house 1 1;mind 0 0 for 1;said 0 1 for 1;loaf wafer 0;said 1 0 for 1;said 1 1 for 1;loaf wafer 1;loaf wafer 0;");
        P.due("by numbers", w.shares(0, 1, 2), 2);
        P.due("by numbers", w.shares(0, 1, 1), 1);
        // Loaves 0 and 1 (1, 3, -3) together win house 0; loaf 2 (1, 0, 3) alone wins house 1.
        BreadTalk v = Probe.withTown("house 1 0;house 9 0;mind 0 0 against 1;mind 0 1 for 3;mind 1 2 for 3;"
                + "said 0 0 for 1;said 0 1 for 3;said 0 2 against 3;said 1 0 for 1;said 1 2 for 3;loaf wafer 0;loaf wafer 0;loaf wafer 1;");
        P.due("all won", v.shares(0, 0, 0), 10);
        P.due("the fewest, not the least number", v.shares(0, 0, 1), 1);
        P.due("the fewest, not the least number", v.shares(0, 0, 2), 4);
    }

    private static void feast() {
        // Minds (1, 0), stubborn 1. Loaf 0: (0, 1), loaf 1: (1, 1), loaf 2: (-1, 0) with which it never agrees at first.
        BreadTalk x = Probe.withTown("topics 2;house 1 1;mind 0 0 for 1;said 0 1 for 2;loaf wafer 0;said 1 0 for 1;said 1 1 for 1;loaf wafer 1;said 2 0 against 1;loaf wafer 2;");
        P.due("greatest", x.feast(0, 0, 3, 1, 0), 2);
        P.due("least", x.feast(0, 0, 3, 1, 1), 1);
        P.due("orders", x.feast(0, 0, 3, 1, 2), 1);
        P.due("orders", x.feast(0, 0, 7, 1, 2), 0);
        P.due("no loaves", x.feast(0, 0, 0, 0, 0), 1);
        P.due("no loaves", x.feast(0, 0, 0, 0, 1), 1);
        P.due("no loaves", x.feast(0, 0, 0, 0, 2), 1);
        P.due("not there", x.feast(0, 0, 8, 0, 2), -1000);
        P.due("not there", x.feast(0, 0, -1, 0, 2), -1000);
        P.due("not there", x.feast(0, 0, Integer.MIN_VALUE, 0, 2), -1000);
        P.due("no topic", x.feast(0, 0, 1, 2, 0), -1000);
        P.due("no topic", x.feast(0, 0, 1, -1, 0), -1000);
        P.due("no house", x.feast(0, 1, 1, 0, 0), -1000);
        P.due("no house", x.feast(0, -1, 1, 0, 0), -1000);
        P.due("no town", x.feast(1, 0, 1, 0, 0), -1000);
        P.due("another what", x.feast(0, 0, 1, 0, 3), -1000);
        P.due("another what", x.feast(0, 0, 1, 0, -1), -1000);
        BreadTalk y = Probe.withTown("house 1 0;said 0 0 for 3;" + "loaf wafer 0;".repeat(8));
        P.due("six", y.feast(0, 0, 63, 0, 2), 720);
        P.due("six of eight", y.feast(0, 0, 0xfc, 0, 2), 720);
        P.due("six of eight", y.feast(0, 0, 0xfc, 0, 0), 3);
        P.due("two", y.feast(0, 0, 0x81, 0, 1), 2);
        P.due("seven", y.feast(0, 0, 127, 0, 0), -1000);
    }

    private static void agree() {
        BreadTalk x = Probe.withTown(SIX);
        // rye (1, 0) clashes with bun, toast, wafer; those with no other one.
        P.due("together", x.agree(0, 0), 0b111110);
        P.due("strike", x.agree(0, 1), 1);
        P.due("couples", x.agree(0, 2), 3);
        P.due("another what", x.agree(0, 3), -1);
        P.due("another what", x.agree(0, -1), -1);
        P.due("no town", x.agree(1, 0), -1);
        BreadTalk y = Probe.withTown("said 0 0 for 1;said 1 0 against 1;said 2 2 for 1;said 3 2 against 1;loaf wafer 0;loaf wafer 1;loaf wafer 2;loaf wafer 3;");
        P.due("together, the least", y.agree(0, 0), 0b0101);
        P.due("strike two", y.agree(0, 1), 0b101);
        P.due("couples", y.agree(0, 2), 2);
        BreadTalk z = Probe.withTown("");
        P.due("no loaves", z.agree(0, 0), 0);
        P.due("no loaves", z.agree(0, 1), 0);
        P.due("no loaves", z.agree(0, 2), 0);
    }

    private static void side() {
        String houses = "house 1 0;house 2 9;house 4 3;house 8 0;mind 0 0 for 1;mind 1 0 for 1;mind 2 0 for 3;mind 2 1 for 1;";
        BreadTalk x = Probe.withTown(houses + "said 0 0 for 1;said 1 0 against 1;loaf wafer 0;loaf wafer 1;");
        P.due("side", x.side(0, 0, 0), 5);
        P.due("no view on it, no mind on it", x.side(0, 0, 1), 9);
        P.due("against", x.side(0, 1, 0), 0);
        P.due("no loaf", x.side(0, 2, 0), -1);
        P.due("no loaf", x.side(0, -1, 0), -1);
        P.due("no topic", x.side(0, 0, 3), -1);
        P.due("no topic", x.side(0, 0, -1), -1);
        P.due("no town", x.side(1, 0, 0), -1);
    }

    private static void visits() {
        // Three in a ring, one of them for it; a fourth that goes to the first.
        String ring = "house 1 0;house 1 0;house 1 0;house 1 0;visit 0 1;visit 1 2;visit 2 0;visit 3 0;";
        BreadTalk x = Probe.withTown(ring + "mind 0 0 for 2;mind 1 0 against 1;mind 2 0 against 3;mind 0 1 for 1;mind 3 2 for 1;");
        P.due("tail", x.visits(0, 0, 0), 1);
        P.due("period", x.visits(0, 0, 1), 3);
        P.due("hermits", x.visits(0, 0, 2), 1);
        P.due("one tells all: tail", x.visits(0, 1, 0), 2);
        P.due("one tells all: period", x.visits(0, 1, 1), 1);
        P.due("one tells all: hermits", x.visits(0, 1, 2), 0);
        P.due("at rest: tail", x.visits(0, 2, 0), 0);
        P.due("at rest: period", x.visits(0, 2, 1), 1);
        P.due("another what", x.visits(0, 0, 3), -1);
        P.due("another what", x.visits(0, 0, -1), -1);
        P.due("no topic", x.visits(0, 3, 0), -1);
        P.due("no topic", x.visits(0, -1, 0), -1);
        P.due("no town", x.visits(1, 0, 0), -1);
        BreadTalk y = Probe.withTown("");
        P.due("nobody: tail", y.visits(0, 0, 0), 0);
        P.due("nobody: period", y.visits(0, 0, 1), 1);
        P.due("nobody: hermits", y.visits(0, 0, 2), 0);
        // Two pairs that change over: one of each must stay.
        BreadTalk z = Probe.withTown("house 1 0;house 1 0;house 1 0;house 1 0;visit 0 1;visit 1 0;visit 2 3;visit 3 2;mind 0 0 for 1;mind 1 0 against 1;mind 2 0 for 1;mind 3 0 against 1;");
        P.due("two pairs", z.visits(0, 0, 2), 0b0101);
        // Rings of three and five go round in fifteen steps.
        BreadTalk w = Probe.withTown("house 1 0;".repeat(8) + "visit 0 1;visit 1 2;visit 2 0;visit 3 4;visit 4 5;visit 5 6;visit 6 7;visit 7 3;"
                + "mind 0 0 for 1;mind 1 0 against 1;mind 2 0 against 1;mind 3 0 for 1;mind 4 0 against 1;mind 5 0 against 1;mind 6 0 against 1;mind 7 0 against 1;");
        P.due("fifteen", w.visits(0, 0, 1), 15);
        P.due("fifteen: hermits", w.visits(0, 0, 2), 0b1001);
    }

    private static void sign() {
        String ring = "house 1 0;house 1 0;house 1 0;visit 0 1;visit 1 2;visit 2 0;mind 0 0 for 3;mind 1 0 against 2;mind 2 0 against 1;";
        BreadTalk x = Probe.withTown(ring);
        int[] first = {1, -1, -1, 1, -1};
        for (int n = 0; n < first.length; n++) {
            P.due("sign behind " + n, x.sign(0, 0, 0, n), first[n]);
        }
        P.due("sign behind 99", x.sign(0, 0, 0, 99), 1);
        P.due("sign behind 98", x.sign(0, 0, 1, 98), 1);
        P.due("n 100", x.sign(0, 0, 0, 100), -9);
        P.due("n below 0", x.sign(0, 0, 0, -1), -9);
        P.due("no house", x.sign(0, 0, 3, 0), -9);
        P.due("no house", x.sign(0, 0, -1, 0), -9);
        P.due("no topic", x.sign(0, 3, 0, 0), -9);
        P.due("no topic", x.sign(0, -1, 0, 0), -9);
        P.due("no town", x.sign(1, 0, 0, 0), -9);
        BreadTalk y = Probe.withTown("house 1 0;house 1 0;house 1 0;visit 0 1;visit 0 2;mind 0 0 against 1;mind 1 0 for 3;mind 2 0 against 1;mind 1 1 for 1;");
        P.due("its own if together 0", y.sign(0, 0, 0, 1), -1);
        P.due("0 is no voice", y.sign(0, 1, 0, 1), 1);
        P.due("0 stays", y.sign(0, 1, 2, 7), 0);
    }

    private static void sales() {
        BreadTalk x = Probe.withTown("house 1 0;house 2 0;house 4 0;house 8 0;mind 0 0 against 3;mind 1 0 for 1;mind 2 0 for 2;mind 3 0 for 3;");
        P.due("first", x.sales(0, 0, 0, 2, false), 1);
        P.due("other", x.sales(0, 0, 0, 2, true), 12);
        P.due("the same", x.sales(0, 0, 2, 2, false), 0);
        P.due("ends", x.sales(0, 0, -3, 3, false), 1);
        P.due("ends", x.sales(0, 0, -3, 3, true), 14);
        P.due("views", x.sales(0, 0, 4, 0, false), -1);
        P.due("views", x.sales(0, 0, -4, 0, false), -1);
        P.due("views", x.sales(0, 0, 0, 4, true), -1);
        P.due("views", x.sales(0, 0, 0, -4, true), -1);
        P.due("no topic", x.sales(0, 3, 0, 0, true), -1);
        P.due("no topic", x.sales(0, -1, 0, 0, true), -1);
        P.due("no town", x.sales(1, 0, 0, 0, true), -1);
    }

    private static void rest() {
        // All at 2: one of them must be there, wherever the other is.
        BreadTalk x = Probe.withTown("house 3 0;mind 0 0 for 2;");
        int[] rests = {5, 12, 19, 26, 33, 35, 36, 37, 38, 39, 40, 41, 47};
        P.due("how many", x.rest(0, 0, -1), rests.length);
        for (int k = 0; k < rests.length; k++) {
            P.due("rest " + k, x.rest(0, 0, k), rests[k]);
        }
        P.due("no such", x.rest(0, 0, 13), -1);
        P.due("no such", x.rest(0, 0, -2), -1);
        P.due("no topic", x.rest(0, 3, -1), -1);
        P.due("no topic", x.rest(0, -1, -1), -1);
        P.due("no town", x.rest(1, 0, -1), -1);
        BreadTalk y = Probe.withTown("");
        P.due("nobody", y.rest(0, 0, -1), 49);
        P.due("nobody", y.rest(0, 0, 0), 0);
        P.due("nobody", y.rest(0, 0, 48), 48);
        P.due("nobody", y.rest(0, 0, 49), -1);
    }

    private static void plate() {
        BreadTalk x = Probe.withPlate("topics 5;lies 2;crumb bun 4 against 1;crumb toast 0 for 3;crumb wafer 1 for 0;lies 1;");
        int[] sizes = {5, 1, 3};
        int[] rows = {1, 4, -1, 3, 0, 3, 4, 1, 0};
        for (int i = 0; i < 3; i++) {
            P.due("size", x.plate(0, -1, i), sizes[i]);
        }
        for (int i = 0; i < 9; i++) {
            P.due("crumb", x.plate(0, i / 3, i % 3), rows[i]);
        }
        P.due("no crumb", x.plate(0, 3, 0), -9);
        P.due("no crumb", x.plate(0, -2, 0), -9);
        P.due("another what", x.plate(0, -1, 3), -9);
        P.due("another what", x.plate(0, 0, 3), -9);
        P.due("another what", x.plate(0, 0, -1), -9);
        P.due("no plate", x.plate(1, 0, 0), -9);
        P.due("no plate", x.plate(-1, 0, 0), -9);
        P.due("at first", Probe.withPlate("").plate(0, -1, 0), 3);
        P.due("at first", Probe.withPlate("").plate(0, -1, 1), 0);
    }

    private static void fits() {
        BreadTalk x = Probe.withPlate("topics 2;crumb bun 0 for 1;crumb toast 0 for 3;crumb toast 1 against 3;");
        // Topic 0: 2 or 3; topic 1: -3 .. -1.
        P.due("fits", x.fits(0, 0), 6);
        P.due("false", x.fits(0, 1), 0);
        P.due("next: wafer of topic 1", x.fits(0, 2), 25);
        P.due("least", x.fits(0, 10), 2);
        P.due("most", x.fits(0, 20), 3);
        P.due("least", x.fits(0, 11), -3);
        P.due("most", x.fits(0, 21), -1);
        for (int what : new int[] {-1, 3, 9, 12, 19, 22, 29, 30, 31, Integer.MAX_VALUE, Integer.MIN_VALUE}) {
            P.due("what " + what, x.fits(0, what), -9);
        }
        P.due("no plate", x.fits(1, 0), -9);
        P.due("no plate", x.fits(-1, 0), -9);
        BreadTalk y = Probe.withPlate("topics 1;crumb bun 0 for 2;crumb wafer 0 for 3;");
        P.due("nothing", y.fits(0, 0), 0);
        P.due("nothing: false", y.fits(0, 1), 1);
        P.due("nothing: next", y.fits(0, 2), -9);
        P.due("nothing: least", y.fits(0, 10), -9);
        P.due("nothing: most", y.fits(0, 20), -9);
        BreadTalk z = Probe.withPlate("topics 1;lies 1;crumb bun 0 for 2;crumb wafer 0 for 3;");
        P.due("by a lie", z.fits(0, 0), 1);
        P.due("by a lie", z.fits(0, 10), 3);
        P.due("by a lie: next", z.fits(0, 2), 6);
        BreadTalk v = Probe.withPlate("topics 1;crumb wafer 0 against 3;");
        P.due("at the lower end", v.fits(0, 10), -3);
        P.due("at the lower end", v.fits(0, 20), -3);
        BreadTalk w = Probe.withPlate("topics 6;lies 9;");
        P.due("all", w.fits(0, 0), 117649);
        P.due("all: next", w.fits(0, 2), 24);
        P.due("all: least", w.fits(0, 15), -3);
        P.due("all: most", w.fits(0, 25), 3);
    }

    private static void jury() {
        BreadTalk x = new BreadTalk();
        P.due("1 of 1 by 5", x.jury(1, 1, 5, false), 1);
        P.due("1 of 1 by 5", x.jury(1, 1, 5, true), 2);
        P.due("2 of 2 by 3", x.jury(2, 2, 3, false), 9);
        P.due("2 of 2 by 3", x.jury(2, 2, 3, true), 100);
        P.due("0 or more", x.jury(5, 0, 3, false), 1);
        P.due("0 or more", x.jury(5, 0, 3, true), 1);
        P.due("6 of 5", x.jury(5, 6, 3, false), 0);
        P.due("6 of 5", x.jury(5, 6, 3, true), 1);
        P.due("13 of 1", x.jury(1, 13, 10, false), 0);
        P.due("sure", x.jury(12, 12, 10, false), 1);
        P.due("never", x.jury(12, 1, 0, false), 0);
        P.due("never", x.jury(12, 1, 0, true), 1);
        P.due("12 of 12 by 9", x.jury(12, 12, 9, false), 282429536481L);
        P.due("12 of 12 by 9", x.jury(12, 12, 9, true), 1000000000000L);
        int[][] wrong = {{0, 0, 5}, {13, 0, 5}, {-1, 0, 5}, {3, -1, 5}, {3, 14, 5}, {3, 0, -1}, {3, 0, 11}};
        for (int[] w : wrong) {
            P.due("other numbers", x.jury(w[0], w[1], w[2], false), -1);
            P.due("other numbers", x.jury(w[0], w[1], w[2], true), -1);
        }
    }

    private static void bound() {
        BreadTalk x = new BreadTalk();
        P.due("1 by 8, 3", x.bound(1, 8, 3), 1);
        P.due("always one error", x.bound(1, 5, 5), 0);
        P.due("the wrong way", x.bound(1, 3, 8), 0);
        P.due("none are wrong", x.bound(12, 10, 0), 1);
        P.due("the wrong way, sure", x.bound(2, 0, 10), 0);
        P.due("two by 9, 5: both must be", x.bound(2, 9, 5), 2);
        P.due("a none, b few", x.bound(3, 0, 2), 0);
        int[][] wrong = {{0, 5, 5}, {13, 5, 5}, {3, -1, 5}, {3, 11, 5}, {3, 5, -1}, {3, 5, 11}};
        for (int[] w : wrong) {
            P.due("other numbers", x.bound(w[0], w[1], w[2]), -1);
        }
    }

    private static void drawn() {
        BreadTalk x = Probe.withTown("house 1 0;loaf rye 0;");
        P.due("0 times", x.drawn(0, 7, 0, 1), 1);
        P.due("n below 0", x.drawn(0, 7, -1, 1), -1000);
        P.due("n 61", x.drawn(0, 7, 61, 1), -1000);
        P.due("no town", x.drawn(1, 7, 1, 1), -1000);
        P.due("another what", x.drawn(0, 7, 1, 4), -1000);
        P.due("no house", x.drawn(0, 7, 1, 46), -1000);
        int seed = 0;
        seed = seed * 1103515245 + 12345;
        P.due("first number of seed 0", (seed >>> 16) % 6, 0);
        seed = seed * 1103515245 + 12345;
        int oven = (seed >>> 16) % 4;
        seed = seed * 1103515245 + 12345;
        int topic = (seed >>> 16) % 3;
        seed = seed * 1103515245 + 12345;
        int view = (seed >>> 16) % 7 - 3;
        P.due("said", x.drawn(0, 0, 1, 200 + 6 * oven + topic), view);
        P.due("last", x.drawn(0, 0, 1, 280 + oven), topic);
        BreadTalk y = Probe.withTown("");
        for (int s = -20; s < 20; s++) {
            P.due("nobody eats", y.drawn(0, s, 60, 2), 0);
        }
    }

    private static void apart() {
        BreadTalk x = Probe.withTown("house 1 0;house 1 0;mind 0 0 for 3;mind 1 0 against 3;mind 0 1 for 1;mind 1 2 against 2;");
        P.due("apart", x.apart(0, 0, 1), 9);
        P.due("apart", x.apart(0, 1, 0), 9);
        P.due("itself", x.apart(0, 1, 1), 0);
        P.due("no house", x.apart(0, 0, 2), -1);
        P.due("no house", x.apart(0, -1, 0), -1);
        P.due("no town", x.apart(1, 0, 0), -1);
        P.due("no town", x.apart(-1, 0, 0), -1);
    }

    private static void factions() {
        BreadTalk x = Probe.withTown("house 1 0;house 1 0;house 1 0;house 1 0;mind 0 0 against 3;mind 1 0 for 1;mind 2 0 against 1;mind 3 0 for 3;");
        P.due("within 0", x.factions(0, 0, -1), 4);
        P.due("within 1", x.factions(0, 1, -1), 4);
        P.due("within 2", x.factions(0, 2, -1), 1);
        P.due("within 2", x.factions(0, 2, 0), 15);
        P.due("within 1", x.factions(0, 1, 2), 4);
        P.due("within 36", x.factions(0, 36, -1), 1);
        P.due("within 37", x.factions(0, 37, -1), -1);
        P.due("within -1", x.factions(0, -1, -1), -1);
        P.due("no house", x.factions(0, 0, 4), -1);
        P.due("no house", x.factions(0, 0, -2), -1);
        P.due("no town", x.factions(1, 0, -1), -1);
        P.due("nobody", Probe.withTown("").factions(0, 0, -1), 0);
    }

    private static void pivots() {
        BreadTalk x = Probe.withTown("house 3 0;house 2 0;house 1 0;house 4 0;mind 0 0 for 1;mind 1 0 against 1;mind 2 0 for 3;"
                + "mind 0 1 for 1;mind 1 1 against 1;mind 2 1 against 1;");
        P.due("without 3 of 2", x.pivots(0, 0), 1);
        P.due("at 0 all who vote", x.pivots(0, 1), 7);
        P.due("nobody votes", x.pivots(0, 2), 0);
        P.due("no topic", x.pivots(0, 3), -1);
        P.due("no topic", x.pivots(0, -1), -1);
        P.due("no town", x.pivots(1, 0), -1);
        P.due("to 0 is another sign", Probe.withTown("house 1 0;mind 0 0 against 1;").pivots(0, 0), 1);
    }

    private static void sway() {
        // Minds (1, -1), stubborn 1. Loaf 0 (0, 3): never at first. Loaf 1 (3, 0), loaf 2 (3, 3), loaf 3 (3, 3).
        String town = "topics 2;house 1 1;mind 0 0 for 1;mind 0 1 against 1;said 0 1 for 3;loaf wafer 0;said 1 0 for 3;loaf wafer 1;said 2 0 for 3;said 2 1 for 3;loaf wafer 2;loaf wafer 2;";
        BreadTalk x = Probe.withTown(town);
        // Loaf 2 and 3 come to 3 - 3 = 0, less than 1: loaf 1 first; then 2 (mind 0), then 0 would be 0: so 3.
        P.due("how many", x.sway(0, 0, 1, false), 3);
        P.due("which", x.sway(0, 0, 1, true), 0b1110);
        P.due("above 0 at once", x.sway(0, 0, 0, false), 0);
        P.due("above 0 at once", x.sway(0, 0, 0, true), 0);
        P.due("no topic", x.sway(0, 0, 2, false), -1);
        P.due("no topic", x.sway(0, 0, -1, false), -1);
        P.due("no house", x.sway(0, 1, 0, false), -1);
        P.due("no house", x.sway(0, -1, 0, true), -1);
        P.due("no town", x.sway(1, 0, 0, true), -1);
        BreadTalk y = Probe.withTown("house 1 0;loaf rye 0;");
        P.due("by none", y.sway(0, 0, 0, false), -1);
        P.due("by none", y.sway(0, 0, 0, true), -1);
        BreadTalk z = Probe.withTown("house 1 0;mind 0 0 against 3;mind 0 1 for 3;said 0 0 for 1;said 0 1 for 3;" + "loaf wafer 0;".repeat(8));
        P.due("four of eight", z.sway(0, 0, 0, false), 4);
        P.due("four of eight", z.sway(0, 0, 0, true), 15);
    }

    private static void count() {
        BreadTalk x = Probe.withDays("", "");
        P.due("towns", x.count(0), 1);
        P.due("days", x.count(1), 1);
        P.due("plates", x.count(2), 0);
        P.due("another", x.count(3), -2);
        P.due("another", x.count(-1), -2);
        Probe.tell(x, 0, -1, "");
        P.due("two towns", x.count(0), 2);
        Probe.tell(x, 0, 0, "");
        P.due("still two", x.count(0), 2);
    }

    private static void image() {
        BreadTalk x = new BreadTalk();
        P.due("image(-1)", x.image(-1), false);
        P.due("image(3)", x.image(3), false);
        P.due("image(0)", x.image(0), true);
        P.due("image(2)", x.image(2), true);
        P.due("again(1)", x.again(1), false);
        P.due("again(2)", x.again(2), true);
        P.due("again(-1)", x.again(-1), false);
        P.due("again(3)", x.again(3), false);
    }

    private static void again() {
        BreadTalk x = Probe.withDays(SIX, "night;say 1 1 for 1;");
        Probe.tell(x, 2, -1, "lies 4;crumb bun 1 for 1;");
        Probe.tell(x, 0, -1, "life 0;");
        Probe.put(x, "life 8;");
        x.image(1);
        P.due("taken", x.text(0, 0), 0);
        Probe.tell(x, 1, 0, "");
        Probe.tell(x, 2, 0, "");
        Probe.tell(x, 0, -1, "");
        P.due("two towns", x.count(0), 2);
        P.due("life", x.town(0, 1), 8);
        x.image(0);
        P.due("again", x.again(1), true);
        P.due("one town", x.count(0), 1);
        P.due("fault", x.fault(0), 2);
        P.due("place", x.fault(1), 5);
        P.due("houses", x.town(0, 2), 2);
        P.due("mind", x.mind(0, 1, 1), -1);
        P.due("said", x.said(0, 1, 2), -3);
        P.due("deeds", x.deed(0, 1, 3), 1);
        P.due("lies", x.plate(0, -1, 1), 4);
        P.due("crumb", x.plate(0, 0, 2), 1);
        P.due("the tape", x.end(7), 7);
        P.due("the tape", x.end(8), -1);
        P.due("the tape's text", x.text(0, 0), 0);
        P.due("the tape's text", x.town(0, 1), 8);
        P.due("again once more", x.again(1), true);
        P.due("an image stays", x.town(0, 1), 1);
        P.due("the other image", x.again(0), true);
        P.due("the other image", x.count(0), 2);
        P.due("the other image", x.town(0, 1), 8);
        P.due("fault of the other", x.fault(0), 0);
    }
}
