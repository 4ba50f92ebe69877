/** Boundary cases of texts: promises 4 and 5, by the terms' first part: tokens, lines, numbers, faults and their places. */
public final class TextEdgesTest {
    private static final Probe P = new Probe();

    /**
     * Lines that are good by themselves, with what the text needs behind them; each number has its bounds in the same place of
     * BOUNDS ("-" where there is a word).
     */
    private static final String[][] LINES = {
        {"topics 2", "life 9", "house 4 5", "visit 0 1", "mind 1 2 for 3", "said 3 1 against 2", "loaf crust 2"},
        {"say 2 1 for 3", "bake toast 1", "eat 3 12", "butter 2 9", "talk 5 2", "night"},
        {"topics 4", "lies 3", "crumb bun 1 for 1", "crumb toast 2 against 3", "crumb wafer 0 for 0"}};
    private static final String[][] BOUNDS = {
        {"1-6", "1-9", "1-9 0-9", "0-7 0-7", "0-7 0-5 - 0-3", "0-3 0-5 - 0-3", "- 0-3"},
        {"0-3 0-5 - 0-3", "- 0-3", "0-7 0-15", "0-7 0-15", "0-7 0-3", ""},
        {"1-6", "0-9", "- 0-5 - 0-3", "- 0-5 - 0-3", "- 0-5 - 0-3"}};
    /** So that every house and topic is there. */
    private static final String[] REST = {"house 1 0;house 1 0;house 1 0;house 1 0;house 1 0;house 1 0;house 1 0;topics 6;", "", "topics 6;"};

    public static void main(String[] args) {
        for (int sort = 0; sort < 3; sort++) {
            for (int i = 0; i < LINES[sort].length; i++) {
                lineEnds(sort, LINES[sort][i]);
                wrongTokens(sort, LINES[sort][i]);
                blanksBetween(sort, LINES[sort][i]);
                numbers(sort, LINES[sort][i], BOUNDS[sort][i]);
                otherSorts(sort, LINES[sort][i]);
            }
        }
        bytes();
        longRows();
        wordsAsLongAsTheyGo();
        everyWordInEachPlace();
        lettersChanged();
        tokensCutByTheEnd();
        visitItself();
        fullSorts();
        orderOfFaults();
        missingHouses();
        missingTopics();
        laterOnesStrike();
        furtherOnes();
        eachItsOwn();
        atFirst();
        views();
        P.end("TextEdgesTest");
    }

    private static void faulty(int sort, String text, int fault, int place) {
        BreadTalk x = new BreadTalk();
        String name = "Promise 4: text " + sort + " of '" + text + "'";
        P.due(name, Probe.tell(x, sort, -1, text), fault == 0 ? 0 : -1);
        P.due(name.replace("Promise 4", "Promise 5") + ": FAULT", x.fault(0), fault);
        P.due(name.replace("Promise 4", "Promise 5") + ": place", x.fault(1), place);
        P.due(name.replace("Promise 4", "Promise 29") + ": count", x.count(sort), fault == 0 ? 1 : 0);
    }

    private static void good(int sort, String text) {
        faulty(sort, text, 0, -1);
    }

    /** A text ends behind a whole line alone: within one it is FAULT 1 at the end's place. */
    private static void lineEnds(int sort, String line) {
        String whole = line + ";" + REST[sort];
        good(sort, whole);
        String[] tokens = line.split(" ");
        StringBuilder part = new StringBuilder();
        for (String token : tokens) {
            part.append(token);
            faulty(sort, part.toString(), 1, part.length());
            part.append(' ');
            faulty(sort, part.toString(), 1, part.length());
            faulty(sort, part + "\n", 1, part.length() + 1);
            faulty(sort, REST[sort] + part, 1, REST[sort].length() + part.length());
        }
        faulty(sort, line + ";;", 1, line.length() + 1);
        faulty(sort, ";" + line + ";", 1, 0);
        faulty(sort, line + " " + line + ";", 1, line.length() + 1);
    }

    /** Each token in the place of each: only its own sort goes on there. */
    private static void wrongTokens(int sort, String line) {
        String[] tokens = (line + " ;").split(" ");
        String[] others = {"7", "for", "rye", ";", "x", "night", "topics", "007", "@"};
        for (int i = 0; i < tokens.length; i++) {
            int place = 0;
            for (int j = 0; j < i; j++) {
                place += tokens[j].length() + 1;
            }
            for (String other : others) {
                if (!goesThere(sort, tokens, i, other)) {
                    String[] changed = tokens.clone();
                    changed[i] = other;
                    faulty(sort, String.join(" ", changed), 1, place);
                }
            }
        }
    }

    private static boolean goesThere(int sort, String[] tokens, int i, String other) {
        String token = tokens[i];
        if (i == 0) {
            // Another line's first word goes on; it is looked at where it is its own.
            return sort == 1 && other.equals("night") || sort != 1 && other.equals("topics");
        }
        if (Character.isDigit(token.charAt(0))) {
            return other.equals("7");
        }
        if (token.equals("for") || token.equals("against")) {
            return other.equals("for");
        }
        return other.equals(token) || other.equals("rye") && i == 1 && (tokens[0].equals("loaf") || tokens[0].equals("bake"));
    }

    /** Blanks are 10 and 32, as many as one likes; none are needed where tokens end by themselves. */
    private static void blanksBetween(int sort, String line) {
        String rest = REST[sort];
        good(sort, " \n" + line.replace(" ", "\n \n") + " ;\n" + rest + "\n\n");
        good(sort, line.replaceAll("([a-z]) ([0-9])", "$1$2").replaceAll("([0-9]) ([a-z])", "$1$2") + ";" + rest);
        String[] tokens = (line + " ;").split(" ");
        for (String no : new String[] {"\t", "\r", "\0", "\u000b", "\f", "\u00a0", ",", "."}) {
            int place = tokens[0].length();
            faulty(sort, line.replaceFirst("( |$)", no), 1, place);
        }
    }

    private static void numbers(int sort, String line, String bounds) {
        String[] tokens = line.split(" ");
        String[] each = bounds.isEmpty() ? new String[0] : bounds.split(" ");
        for (int i = 0; i < each.length; i++) {
            if (each[i].equals("-")) {
                continue;
            }
            int least = Integer.parseInt(each[i].split("-")[0]);
            int greatest = Integer.parseInt(each[i].split("-")[1]);
            for (int number = 0; number < 100; number++) {
                boolean itself = tokens[0].equals("visit") && number == Integer.parseInt(tokens[3 - (i + 1)]);
                number(sort, tokens, i + 1, "" + number, number >= least && number <= greatest && !itself);
            }
            if (greatest < 10) {
                number(sort, tokens, i + 1, "0" + greatest, true);
            }
            boolean itself = tokens[0].equals("visit") && i == 1;
            number(sort, tokens, i + 1, "00", least == 0 && !itself);
        }
    }

    /** A number in a place of a line, FAULT 2 where it can't be. */
    private static void number(int sort, String[] tokens, int at, String number, boolean canBe) {
        String[] changed = tokens.clone();
        changed[at] = number;
        int place = String.join(" ", java.util.Arrays.copyOf(changed, at)).length() + 1;
        // The seven houses of the rest leave one to a line that is a house itself.
        String text = String.join(" ", changed) + ";" + REST[sort] + (tokens[0].equals("house") ? "" : sort == 0 ? "house 1 0;" : "");
        boolean ownSecond = tokens[0].equals("visit") && at == 1 && !canBe && Integer.parseInt(number) <= 7;
        int where = ownSecond ? String.join(" ", java.util.Arrays.copyOf(changed, 2)).length() + 1 : place;
        faulty(sort, text, canBe ? 0 : 2, canBe ? -1 : where);
    }

    /** A line of one sort is none of another, but where both have it. */
    private static void otherSorts(int sort, String line) {
        for (int other = 0; other < 3; other++) {
            boolean both = line.startsWith("topics") && other != 1;
            if (other != sort && !both) {
                faulty(other, line + ";", 1, 0);
                faulty(other, REST[other] + line + ";", 1, REST[other].length());
            }
        }
    }

    /** Every byte by itself, at a text's beginning and at a line's end. */
    private static void bytes() {
        for (int sort = 0; sort < 3; sort++) {
            for (int b = 0; b < 256; b++) {
                boolean blank = b == 10 || b == 32;
                boolean letter = b >= 'a' && b <= 'z';
                faulty(sort, "" + (char) b, blank ? 0 : 1, blank ? -1 : 0);
                String line = sort == 1 ? "night;" : "topics 3;";
                faulty(sort, line + (char) b, blank ? 0 : 1, blank ? -1 : line.length());
                String open = sort == 1 ? "night" : "topics 3";
                boolean longer = sort == 1 ? letter : b >= '0' && b <= '9';
                if (longer && sort == 1) {
                    faulty(sort, open + (char) b + ";", 1, 0);
                } else if (!longer) {
                    boolean ends = blank || b == ';';
                    int place = b == ';' ? open.length() + 1 : open.length();
                    faulty(sort, open + (char) b + ";", blank ? 0 : 1, blank ? -1 : place);
                    faulty(sort, open + (char) b, 1 - (b == ';' ? 1 : 0), b == ';' ? -1 : ends ? open.length() + 1 : open.length());
                }
            }
        }
    }

    /** A longer row of digits is no token: FAULT 1 at its first byte, also where its number could be. */
    private static void longRows() {
        faulty(0, "topics 003;", 1, 7);
        faulty(0, "topics 100;", 1, 7);
        faulty(0, "topics 03;", 0, -1);
        faulty(0, "topics 30;", 2, 7);
        faulty(0, "topics 3 3;", 1, 9);
        faulty(0, "house 111;", 1, 6);
        faulty(0, "house 11;", 1, 8);
        faulty(0, "house 1 1;house 1111", 1, 16);
        faulty(0, "life 9;000", 1, 7);
        faulty(1, "eat 0 015;", 1, 6);
        faulty(1, "eat 0 15;", 0, -1);
        faulty(1, "eat 015;", 1, 4);
        faulty(2, "lies 000;", 1, 5);
        faulty(2, "lies 00;", 0, -1);
    }

    private static void wordsAsLongAsTheyGo() {
        faulty(0, "topicslife 3;", 1, 0);
        faulty(0, "lifelife 3;", 1, 0);
        faulty(0, "lif 3;", 1, 0);
        faulty(0, "life3;", 0, -1);
        faulty(0, "loafrye 0;", 1, 0);
        faulty(0, "loaf ryebun 0;", 1, 5);
        faulty(0, "loaf ry 0;", 1, 5);
        faulty(0, "loaf ry e 0;", 1, 5);
        faulty(0, "loaf rye bun 0;", 1, 9);
        faulty(0, "said 0 0 fora 1;", 1, 9);
        faulty(0, "said 0 0 fo 1;", 1, 9);
        faulty(0, "said 0 0 againstt 1;", 1, 9);
        faulty(0, "said 0 0 for for 1;", 1, 13);
        faulty(0, "a".repeat(600), 1, 0);
        faulty(0, "life 3;" + "z".repeat(593), 1, 7);
        faulty(1, "nightnight;", 1, 0);
        faulty(1, "night night;", 1, 6);
        faulty(1, "night;night;", 0, -1);
        faulty(1, "eats 0 0;", 1, 0);
        faulty(2, "crumbs bun 0 for 1;", 1, 0);
        faulty(2, "crumb rye 0 for 1;", 1, 6);
        faulty(2, "crumb crust 0 for 1;", 1, 6);
        faulty(2, "crumb 0 bun for 1;", 1, 6);
    }

    /** Every word there is, in each place of a word: it goes on there, or is FAULT 1 at its first byte. */
    private static void everyWordInEachPlace() {
        String kinds = " rye bun crust toast wafer ";
        String views = " for against ";
        String[] firsts = {" topics life house visit mind said loaf ", " say bake eat butter talk night ", " topics lies crumb "};
        String all = kinds + views + firsts[0] + firsts[1] + firsts[2];
        for (String word : all.trim().split(" +")) {
            word(0, "loaf ", word, " 0;", kinds);
            word(1, "bake ", word, " 0;", kinds);
            word(2, "crumb ", word, " 0 for 1;", " bun toast wafer ");
            word(0, "house 1 0;mind 0 0 ", word, " 1;", views);
            word(0, "said 0 0 ", word, " 1;", views);
            word(1, "say 0 0 ", word, " 1;", views);
            word(2, "crumb bun 0 ", word, " 1;", views);
            for (int sort = 0; sort < 3; sort++) {
                boolean begins = firsts[sort].contains(" " + word + " ");
                faulty(sort, word, 1, begins ? word.length() : 0);
            }
        }
    }

    private static void word(int sort, String before, String word, String behind, String good) {
        boolean goesOn = good.contains(" " + word + " ");
        faulty(sort, before + word + behind, goesOn ? 0 : 1, goesOn ? -1 : before.length());
    }

    /** Every word with one letter changed, one less, one more, or a great one: it is no word of the text's. */
    private static void lettersChanged() {
        for (int sort = 0; sort < 3; sort++) {
            for (String line : LINES[sort]) {
                String[] tokens = (line + " ;").split(" ");
                for (int i = 0; i < tokens.length; i++) {
                    int place = i == 0 ? 0 : String.join(" ", java.util.Arrays.copyOf(tokens, i)).length() + 1;
                    for (int at = 0; Character.isLetter(tokens[i].charAt(0)) && at < tokens[i].length(); at++) {
                        String word = tokens[i];
                        char other = word.charAt(at) == 'z' ? 'y' : (char) (word.charAt(at) + 1);
                        changed(sort, tokens, i, word.substring(0, at) + other + word.substring(at + 1), place);
                        changed(sort, tokens, i, word.substring(0, at) + word.charAt(at) + word.substring(at), place);
                        if (word.length() > 1) {
                            changed(sort, tokens, i, word.substring(0, at) + word.substring(at + 1), place);
                        }
                        char great = Character.toUpperCase(word.charAt(at));
                        // A great letter is no token: where it stands behind others, these are a shorter word, which is none.
                        changed(sort, tokens, i, word.substring(0, at) + great + word.substring(at + 1), place);
                    }
                }
            }
        }
    }

    private static void changed(int sort, String[] tokens, int i, String word, int place) {
        String[] other = tokens.clone();
        other[i] = word;
        faulty(sort, String.join(" ", other), 1, place);
    }

    /** The end cuts a token: bytes that were on the tape behind it are no part of it. */
    private static void tokensCutByTheEnd() {
        String[] whole = {"life 99;", "life 3;", "house 1 12;", "said 0 0 against 1;", "topics 123;"};
        for (String text : whole) {
            for (int length = 0; length < text.length(); length++) {
                BreadTalk x = new BreadTalk();
                Probe.put(x, text);
                x.end(length);
                P.due("Promise 4: '" + text + "' cut to " + length, x.text(0, -1), length == 0 ? 0 : -1);
                BreadTalk y = new BreadTalk();
                Probe.tell(y, 0, -1, text.substring(0, length));
                P.due("Promise 5: '" + text + "' cut to " + length + ": FAULT", x.fault(0), y.fault(0));
                P.due("Promise 5: '" + text + "' cut to " + length + ": place", x.fault(1), y.fault(1));
            }
        }
        BreadTalk x = new BreadTalk();
        Probe.put(x, "life 99;");
        x.end(6);
        x.text(0, -1);
        P.due("Promise 5: the end within a number: FAULT", x.fault(0), 1);
        P.due("Promise 5: the end within a number: place", x.fault(1), 6);
        faulty(0, " ".repeat(594) + "life 3", 1, 600);
        faulty(0, " ".repeat(593) + "life 33", 1, 600);
        faulty(0, " ".repeat(592) + "life 333", 1, 597);
        faulty(0, " ".repeat(596) + "life", 1, 600);
        faulty(0, " ".repeat(597) + "lif", 1, 597);
        faulty(1, " ".repeat(595) + "night", 1, 600);
        faulty(1, " ".repeat(594) + "night;", 0, -1);
    }

    /** Of visit the second number can't be the first; if the first one can't be, that is the first by place. */
    private static void visitItself() {
        String houses = "house 1 0;".repeat(8);
        for (int h = 0; h < 8; h++) {
            faulty(0, houses + "visit " + h + " " + h + ";", 2, 88);
            faulty(0, houses + "visit " + h + " 0" + h + ";", 2, 88);
            faulty(0, houses + "visit " + h + " " + (h + 1) % 8 + ";", 0, -1);
        }
        faulty(0, houses + "visit 8 8;", 2, 86);
        faulty(0, houses + "visit 0 8;", 2, 88);
        faulty(0, "visit 1 1;", 2, 8);
    }

    private static void fullSorts() {
        full(0, "house 1 0;", 8, "house 0 0;", "house 1 10;");
        full(0, "said 0 0 for 1;", 12, "said 4 0 for 1;", "said 0 0 for 4;");
        full(0, "loaf rye 0;", 8, "loaf rye 4;", "loaf wafer 99;");
        full(1, "night;", 40, "eat 8 0;", "say 0 6 for 1;");
        full(1, "eat 0 0;", 40, "talk 0 4;", "bake rye 4;");
        full(2, "crumb bun 0 for 1;", 12, "crumb bun 6 for 1;", "crumb bun 0 for 4;");
    }

    /** As many as may be are good; one more is FAULT 3 at its first token, ahead of its own numbers, whatever comes between. */
    private static void full(int sort, String line, int most, String... wrong) {
        String all = line.repeat(most);
        good(sort, all);
        faulty(sort, all + line, 3, all.length());
        faulty(sort, all + "\n " + line, 3, all.length() + 2);
        faulty(sort, all + line + line, 3, all.length());
        faulty(sort, all + line.substring(0, line.length() - 1), 1, all.length() + line.length() - 1);
        faulty(sort, all + line + "@", 1, all.length() + line.length());
        faulty(sort, all + ";" + line, 1, all.length());
        for (String bad : wrong) {
            faulty(sort, all + bad, 3, all.length());
            faulty(sort, all + line + bad, 3, all.length());
            int before = place(bad);
            faulty(sort, line.repeat(most - 1) + bad, 2, line.length() * (most - 1) + before);
            faulty(sort, bad + all, 2, before);
        }
        if (sort != 1) {
            good(sort, all + "topics 3;");
            faulty(sort, all + "topics 0;" + line, 2, all.length() + 7);
            faulty(sort, all + line + "topics 0;", 3, all.length());
        }
    }

    /** The place of the one wrong number in these lines: the first that is 0, 4, 6, 8 or has two digits, as they were written. */
    private static int place(String bad) {
        String[][] places = {{"house 0 0;", "6"}, {"house 1 10;", "8"}, {"said 4 0 for 1;", "5"}, {"said 0 0 for 4;", "13"},
            {"loaf rye 4;", "9"}, {"loaf wafer 99;", "11"}, {"eat 8 0;", "4"}, {"say 0 6 for 1;", "6"}, {"talk 0 4;", "7"},
            {"bake rye 4;", "9"}, {"crumb bun 6 for 1;", "10"}, {"crumb bun 0 for 4;", "16"}};
        for (String[] known : places) {
            if (known[0].equals(bad)) {
                return Integer.parseInt(known[1]);
            }
        }
        throw new IllegalStateException(bad);
    }

    /** FAULT 1 ahead of all; then 2 and 3 by place; then 4, then 5, at the end's place. */
    private static void orderOfFaults() {
        faulty(0, "life 0;topics 0;x", 1, 16);
        faulty(0, "life 0;topics 0;", 2, 5);
        faulty(0, "topics 0;life 0;", 2, 7);
        faulty(0, "mind 7 5 for 4;", 2, 13);
        faulty(0, "mind 7 5 for 3;", 4, 15);
        faulty(0, "mind 7 5 for 3;x", 1, 15);
        faulty(0, "mind 7 5 for 3;" + "loaf rye 0;".repeat(9), 3, 15 + 88);
        faulty(0, "mind 0 5 for 3;house 1 0;", 5, 25);
        faulty(0, "mind 0 5 for 3;house 1 0;  \n", 5, 28);
        faulty(0, "mind 0 5 for 3;house 1 0;life 0;", 2, 30);
        faulty(0, "mind 0 5 for 3;house 1 0;visit 0 1;", 4, 35);
        faulty(0, "said 0 5 for 3;visit 0 1;", 4, 25);
        faulty(0, "said 0 5 for 3;visit 0 1;house 1 0;house 1 0;", 5, 45);
        faulty(0, "said 0 5 for 3;visit 0 1;house 1 0;house 1 0;topics 6;", 0, -1);
        faulty(0, "house 0 0;visit 0 1;house 1 0;", 2, 6);
        faulty(2, "crumb bun 5 for 4;", 2, 16);
        faulty(2, "crumb bun 5 for 3;", 5, 18);
        faulty(2, "crumb bun 5 for 3;lies 10;", 2, 23);
        faulty(2, "crumb bun 5 for 3;lies 1", 1, 24);
        faulty(1, "eat 7 15;say 3 5 for 3;talk 7 3;", 0, -1);
    }

    /** FAULT 4: a house that was told of by visit (either one) or mind, at the end's place; later houses count. */
    private static void missingHouses() {
        for (int there = 0; there <= 8; there++) {
            String houses = "house 1 0;".repeat(there);
            for (int h = 0; h < 8; h++) {
                int fault = h < there ? 0 : 4;
                String mind = "mind " + h + " 0 for 0;";
                faulty(0, mind + houses, fault, fault == 0 ? -1 : mind.length() + houses.length());
                faulty(0, houses + mind, fault, fault == 0 ? -1 : mind.length() + houses.length());
                int other = h == 0 ? 1 : 0;
                int both = Math.max(h, other) < there ? 0 : 4;
                faulty(0, houses + "visit " + h + " " + other + ";", both, both == 0 ? -1 : houses.length() + 10);
                faulty(0, houses + "visit " + other + " " + h + ";", both, both == 0 ? -1 : houses.length() + 10);
            }
        }
    }

    /** FAULT 5: a topic that was told of by mind, said, crumb, at the end's place; the latest number of topics counts. */
    private static void missingTopics() {
        for (int topics = 1; topics <= 6; topics++) {
            for (int t = 0; t < 6; t++) {
                int fault = t < topics ? 0 : 5;
                String last = "topics " + topics + ";";
                int end = 19 + last.length();
                faulty(0, "said 0 " + t + " for 0;    " + last, fault, fault == 0 ? -1 : end);
                faulty(0, last + "said 0 " + t + " for 0;    ", fault, fault == 0 ? -1 : end);
                faulty(0, "topics 6;topics 1;said 0 " + t + " for 0;    " + last, fault, fault == 0 ? -1 : end + 18);
                faulty(0, "house 1 0;mind 0 " + t + " for 0;    " + last, fault, fault == 0 ? -1 : end + 10);
                faulty(2, "crumb bun " + t + " for 0; " + last, fault, fault == 0 ? -1 : end);
                faulty(2, last + "crumb bun " + t + " for 0; ", fault, fault == 0 ? -1 : end);
                faulty(1, "say 0 " + t + " for 0;", 0, -1);
            }
        }
        faulty(0, "said 0 3 for 1;", 5, 15);
        faulty(0, "said 0 2 for 1;", 0, -1);
        faulty(2, "crumb bun 3 for 1;", 5, 18);
        faulty(2, "crumb bun 2 for 1;", 0, -1);
        faulty(0, "house 1 0;mind 0 3 for 1;mind 0 2 for 1;", 5, 40);
    }

    private static void laterOnesStrike() {
        BreadTalk x = Probe.withTown("life 4;topics 6;topics 1;life 9;topics 2;house 1 0;mind 0 1 for 3;mind 0 0 for 1;mind 0 1 against 2;life 5;");
        P.due("Promise 6: a later topics strikes", x.town(0, 0), 2);
        P.due("Promise 6: a later life strikes", x.town(0, 1), 5);
        P.due("Promise 7: a later mind strikes", x.mind(0, 0, 1), -2);
        P.due("Promise 7: not that of another topic", x.mind(0, 0, 0), 1);
        BreadTalk y = Probe.withTown("house 1 0;mind 0 1 for 3;mind 0 1 for 0;");
        P.due("Promise 7: a later 0 strikes", y.mind(0, 0, 1), 0);
        BreadTalk z = Probe.withPlate("lies 4;topics 6;lies 0;topics 1;");
        P.due("Promise 20: a later topics strikes", z.plate(0, -1, 0), 1);
        P.due("Promise 20: a later lies strikes", z.plate(0, -1, 1), 0);
    }

    private static void furtherOnes() {
        BreadTalk x = Probe.withTown("house 1 2;house 1 2;house 1 2;visit 0 1;visit 0 2;visit 0 1;visit 2 0;said 0 0 for 1;said 0 0 for 1;loaf rye 0;loaf rye 0;");
        P.due("Promise 6: a further house, though the same", x.town(0, 2), 3);
        P.due("Promise 6: further visits", x.town(0, 30), 6);
        P.due("Promise 6: no visits", x.town(0, 31), 0);
        P.due("Promise 6: a visit", x.town(0, 32), 1);
        P.due("Promise 6: a further said, though the same", x.town(0, 3), 2);
        P.due("Promise 6: a further loaf, though the same", x.town(0, 4), 2);
        BreadTalk y = Probe.withDays("", "night;night;talk 0 0;talk 0 0;");
        P.due("Promise 9: further deeds, though the same", y.deed(0, -1, 0), 4);
        BreadTalk z = Probe.withPlate("crumb bun 0 for 1;crumb bun 0 for 1;");
        P.due("Promise 20: a further crumb, though the same", z.plate(0, -1, 2), 2);
        good(0, "house 1 0;house 1 0;" + "visit 0 1;".repeat(58));
    }

    /** A line tells its own thing, and no other: what each one leaves at first. */
    private static void eachItsOwn() {
        String[] lines = {"topics 6;", "life 9;", "house 1 0;", "house 1 0;house 1 0;visit 0 1;", "house 1 0;mind 0 2 for 1;", "said 1 1 for 1;", "loaf toast 1;"};
        int[][] sizes = {{6, 3, 0, 0, 0}, {3, 9, 0, 0, 0}, {3, 3, 1, 0, 0}, {3, 3, 2, 0, 0}, {3, 3, 1, 0, 0}, {3, 3, 0, 1, 0}, {3, 3, 0, 0, 1}};
        for (int i = 0; i < lines.length; i++) {
            BreadTalk x = Probe.withTown(lines[i]);
            for (int what = 0; what < 5; what++) {
                P.due("Promise 6: what " + what + " of " + lines[i], x.town(0, what), sizes[i][what]);
            }
            P.due("Promise 6: visits of " + lines[i], x.town(0, 30), sizes[i][2] == 0 ? -1 : i == 3 ? 2 : 0);
            P.due("Promise 7: mind of " + lines[i], x.mind(0, 0, 2), sizes[i][2] == 0 ? -9 : i == 4 ? 1 : 0);
            P.due("Promise 29: no days by " + lines[i], x.count(1), 0);
            P.due("Promise 29: no plate by " + lines[i], x.count(2), 0);
        }
        String[] crumbs = {"topics 6;", "lies 9;", "crumb bun 2 for 1;"};
        int[][] plates = {{6, 0, 0}, {3, 9, 0}, {3, 0, 1}};
        for (int i = 0; i < crumbs.length; i++) {
            BreadTalk x = Probe.withPlate(crumbs[i]);
            for (int what = 0; what < 3; what++) {
                P.due("Promise 20: what " + what + " of " + crumbs[i], x.plate(0, -1, what), plates[i][what]);
            }
        }
    }

    private static void atFirst() {
        BreadTalk x = Probe.withTown("house 1 0;");
        int[] sizes = {3, 3, 1, 0, 0};
        for (int what = 0; what < 5; what++) {
            P.due("Promise 6: at first, what " + what, x.town(0, what), sizes[what]);
        }
        for (int t = 0; t < 3; t++) {
            P.due("Promise 7: 0 at first", x.mind(0, 0, t), 0);
        }
        P.due("Promise 6: no visits at first", x.town(0, 30), 0);
        BreadTalk y = Probe.withPlate("");
        for (int what = 0; what < 3; what++) {
            P.due("Promise 20: at first, what " + what, y.plate(0, -1, what), what == 0 ? 3 : 0);
        }
    }

    /** Views from -3 to 3, in all four lines that have one; against 0 is 0. */
    private static void views() {
        for (int v = -3; v <= 3; v++) {
            view(v, (v < 0 ? "against " : "for ") + Math.abs(v));
            view(v, (v < 0 ? "against 0" : "for 0") + Math.abs(v));
        }
        view(0, "against 0");
    }

    private static void view(int want, String told) {
        BreadTalk x = Probe.withDays("house 1 0;mind 0 1 " + told + ";said 2 1 " + told + ";", "say 1 2 " + told + ";");
        Probe.tell(x, 2, -1, "crumb wafer 1 " + told + ";");
        P.due("Promise 7: " + told, x.mind(0, 0, 1), want);
        P.due("Promise 8: " + told, x.said(0, 0, 2), want);
        P.due("Promise 9: " + told, x.deed(0, 0, 3), want);
        P.due("Promise 20: " + told, x.plate(0, 0, 2), want);
    }
}
