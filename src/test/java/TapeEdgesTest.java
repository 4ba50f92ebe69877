import java.util.List;

/** Boundary cases of a new object, the tape, text(), fault(), count(), images: promises 1 to 5, 29 to 31. */
public final class TapeEdgesTest {
    private static final Probe P = new Probe();
    private static final int BLANKS = 0x20202020;

    public static void main(String[] args) {
        newObject();
        bytesOfNumbers();
        feedToTheEdge();
        feedRefused();
        end();
        endThenFeed();
        textFurther();
        textInThePlace();
        textLeavesOtherSorts();
        textRefused();
        textFaulty();
        textOfNothing();
        faultOfTheLatest();
        count();
        imageOfAll();
        imageOfCounts();
        imageOver();
        againKeepsImages();
        againFromFull();
        imagesOfNew();
        manyCalls();
        P.end("TapeEdgesTest");
    }

    private static int feedBlanks(BreadTalk x) {
        return x.feed(BLANKS, BLANKS, BLANKS, BLANKS, BLANKS);
    }

    private static void newObject() {
        for (int sort = 0; sort < 3; sort++) {
            BreadTalk x = new BreadTalk();
            P.due("Promise 1: no texts of sort " + sort, x.count(sort), 0);
            P.due("Promise 1: none to be in the place of", x.text(sort, 0), -2);
            P.due("Promise 1: the first one's number", x.text(sort, -1), 0);
        }
        BreadTalk x = new BreadTalk();
        for (int k = 0; k < 3; k++) {
            P.due("Promise 1: no image " + k, x.again(k), false);
        }
        P.due("Promise 1: no FAULT", x.fault(0), 0);
        P.due("Promise 1: no place", x.fault(1), -1);
        P.due("Promise 1: an empty tape has 0 bytes", x.end(0), 0);
        P.due("Promise 1: an empty tape has no byte", x.end(1), -1);
        P.due("Promise 1: the first feed", feedBlanks(x), 20);
        BreadTalk other = new BreadTalk();
        Probe.tell(x, 0, -1, "life 5;");
        x.image(0);
        P.due("Promise 1: objects are apart", other.count(0), 0);
        P.due("Promise 1: objects are apart", other.again(0), false);
        P.due("Promise 1: NONE", BreadTalk.NONE, -1);
    }

    /** Promise 2: twenty bytes, of each number the highest first, the numbers in their order. */
    private static void bytesOfNumbers() {
        BreadTalk x = new BreadTalk();
        P.due("Promise 2: twenty bytes", x.feed(0x6c696665, 0x20343b6c, 0x69666520, 0x353b6c69, 0x66652036), 20);
        P.due("Promise 2: the last byte is the lowest of the fifth", x.end(20), 20);
        x.feed(0x3b000000, 0, 0, 0, 0);
        P.due("Promise 2: behind what is there", x.end(21), 21);
        P.due("Promise 2: the bytes are read in their order", x.text(0, -1), 0);
        P.due("Promise 2: the latest of three", x.town(0, 1), 6);
        for (int i = 0; i < 20; i++) {
            int[] numbers = {BLANKS, BLANKS, BLANKS, BLANKS, BLANKS};
            numbers[i / 4] ^= (0x20 ^ 0xff) << (24 - 8 * (i % 4));
            x.feed(numbers[0], numbers[1], numbers[2], numbers[3], numbers[4]);
            P.due("Promise 2: byte 255 at " + i, x.text(0, 0), -1);
            P.due("Promise 2: byte 255 at " + i, x.fault(1), i);
        }
    }

    private static void feedToTheEdge() {
        BreadTalk x = new BreadTalk();
        for (int i = 1; i <= 30; i++) {
            P.due("Promise 2: how many it has", feedBlanks(x), 20 * i);
        }
        P.due("Promise 2: more than 600", feedBlanks(x), -1);
        P.due("Promise 2: more than 600, again", feedBlanks(x), -1);
        P.due("Promise 2: 600 are there", x.end(600), 600);
        P.due("Promise 2: 600 bytes are a text", x.text(0, -1), 0);
        P.due("Promise 2: the tape begins anew", feedBlanks(x), 20);
        String last = " ".repeat(593) + "life 9;";
        P.due("Promise 2: a text that ends with byte 599", Probe.tell(x, 0, 0, last), 0);
        P.due("Promise 2: a text that ends with byte 599", x.town(0, 1), 9);
        Probe.tell(x, 0, 0, " ".repeat(599) + "@");
        P.due("Promise 2: byte 599", x.fault(1), 599);
    }

    /** Promise 2: where a feed is refused, not one of its bytes comes. */
    private static void feedRefused() {
        for (int length = 575; length <= 600; length++) {
            BreadTalk x = new BreadTalk();
            Probe.put(x, "life 4;" + " ".repeat(length - 7));
            int want = length <= 580 ? length + 20 : -1;
            P.due("Promise 2: feed behind " + length, x.feed(-1, -1, -1, -1, -1), want);
            int there = length <= 580 ? length + 20 : length;
            P.due("Promise 2: no more than there are behind " + length, x.end(there + 1), -1);
            P.due("Promise 2: what there is behind " + length, x.end(there), there);
            P.due("Promise 2: the text behind " + length, x.text(0, -1), length <= 580 ? -1 : 0);
            P.due("Promise 2: the place behind " + length, x.fault(1), length <= 580 ? length : -1);
        }
    }

    private static void end() {
        for (int length : new int[] {0, 1, 20, 599, 600}) {
            BreadTalk x = new BreadTalk();
            Probe.put(x, " ".repeat(length));
            P.due("Promise 3: not so many, " + length, x.end(length + 1), -1);
            P.due("Promise 3: below 0, of " + length, x.end(-1), -1);
            P.due("Promise 3: far below 0, of " + length, x.end(Integer.MIN_VALUE), -1);
            P.due("Promise 3: far beyond, of " + length, x.end(Integer.MAX_VALUE), -1);
            P.due("Promise 3: all of " + length, x.end(length), length);
            P.due("Promise 3: all of " + length + " again", x.end(length), length);
            P.due("Promise 3: none of " + length, x.end(0), 0);
            P.due("Promise 3: none are left", x.end(1), -1);
        }
        BreadTalk x = new BreadTalk();
        Probe.put(x, "life 4;life 5;life 6;");
        P.due("Promise 3: beyond 600", x.end(601), -1);
        P.due("Promise 3: the first 14", x.end(14), 14);
        P.due("Promise 3: bytes that are gone do not come again", x.end(15), -1);
        P.due("Promise 3: the first 14 are a text", x.text(0, -1), 0);
        P.due("Promise 3: the first 14, not the last", x.town(0, 1), 5);
        P.due("Promise 3: a tape that was taken has none", x.end(1), -1);
        P.due("Promise 3: a tape that was taken has 0", x.end(0), 0);
    }

    private static void endThenFeed() {
        BreadTalk x = new BreadTalk();
        Probe.put(x, "life 4;@@@@@@@@@@@@@@@@");
        x.end(7);
        P.due("Promise 3: the next bytes come behind the first n", feedBlanks(x), 27);
        P.due("Promise 3: nothing of the others is left", x.text(0, -1), 0);
        P.due("Promise 3: nothing of the others is left", x.town(0, 1), 4);
        for (int i = 0; i < 30; i++) {
            feedBlanks(x);
        }
        P.due("Promise 3: 580 of 600", x.end(580), 580);
        P.due("Promise 3: there is room again", feedBlanks(x), 600);
    }

    private static void textFurther() {
        for (int sort = 0; sort < 3; sort++) {
            BreadTalk x = new BreadTalk();
            P.due("Promise 4: the first", x.text(sort, -1), 0);
            P.due("Promise 4: the second", x.text(sort, -1), 1);
            P.due("Promise 4: as many as may be", x.text(sort, -1), -2);
            P.due("Promise 4: no third", x.count(sort), 2);
            P.due("Promise 4: other sorts have room", x.text((sort + 1) % 3, -1), 0);
            P.due("Promise 4: other sorts have room", x.text((sort + 2) % 3, -1), 0);
            P.due("Promise 4: still as many as may be", x.text(sort, -1), -2);
            P.due("Promise 4: in the place of the last", x.text(sort, 1), 1);
            P.due("Promise 4: in the place of the first", x.text(sort, 0), 0);
        }
    }

    private static void textInThePlace() {
        BreadTalk x = new BreadTalk();
        Probe.tell(x, 0, -1, "life 1;topics 6;house 1 1;house 2 2;visit 0 1;mind 0 5 for 3;said 0 5 for 1;loaf wafer 1;");
        P.due("Promise 4: none such yet", Probe.tell(x, 0, 1, "life 2;"), -2);
        Probe.tell(x, 0, -1, "life 2;");
        P.due("Promise 4: its number", Probe.tell(x, 0, 0, "house 4 4;house 5 5;"), 0);
        int[] sizes = {3, 3, 2, 0, 0};
        for (int what = 0; what < 5; what++) {
            P.due("Promise 4: nothing of the old one is left, what " + what, x.town(0, what), sizes[what]);
        }
        P.due("Promise 4: no visits of the old one", x.town(0, 30), 0);
        P.due("Promise 4: the new one's houses", x.town(0, 11), 5);
        P.due("Promise 4: the other one stays", x.town(1, 1), 2);
        P.due("Promise 4: no further one", x.count(0), 2);
        Probe.tell(x, 0, 0, "topics 6;house 1 1;");
        P.due("Promise 4: no minds of the old one", x.mind(0, 0, 5), 0);
        Probe.tell(x, 1, -1, "night;night;");
        Probe.tell(x, 1, 0, "talk 1 2;");
        P.due("Promise 4: days in the place of others", x.deed(0, -1, 0), 1);
        P.due("Promise 4: days in the place of others", x.deed(0, 0, 0), 4);
        Probe.tell(x, 2, -1, "topics 5;lies 4;crumb bun 4 for 1;");
        Probe.tell(x, 2, 0, "");
        P.due("Promise 4: a plate in the place of another", x.plate(0, -1, 0), 3);
        P.due("Promise 4: a plate in the place of another", x.plate(0, -1, 1), 0);
        P.due("Promise 4: a plate in the place of another", x.plate(0, -1, 2), 0);
    }

    /** Promise 4: a text of a sort, further or in the place of one, leaves all of the other sorts. */
    private static void textLeavesOtherSorts() {
        String[] texts = {"life 7;", "night;talk 1 1;", "lies 5;"};
        for (int at = 0; at < 2; at++) {
            for (int sort = 0; sort < 3; sort++) {
                for (int before = 0; before < 2; before++) {
                    BreadTalk x = new BreadTalk();
                    for (int i = 0; i < 6; i++) {
                        if (i % 3 != sort || before == 1) {
                            Probe.tell(x, i % 3, -1, texts[i % 3]);
                        }
                    }
                    int place = before == 1 ? at : -1;
                    int number = before == 1 ? at : 0;
                    P.due("Promise 4: an empty text of sort " + sort + " at " + place, Probe.tell(x, sort, place, ""), number);
                    for (int other = 0; other < 2; other++) {
                        boolean gone = other == number;
                        boolean none = before == 0 && other == 1;
                        int life = sort != 0 ? 7 : none ? -1 : gone ? 3 : 7;
                        int deeds = sort != 1 ? 2 : none ? -9 : gone ? 0 : 2;
                        int lies = sort != 2 ? 5 : none ? -9 : gone ? 0 : 5;
                        P.due("Promise 4: town " + other + " behind sort " + sort + " at " + place, x.town(other, 1), life);
                        P.due("Promise 4: days " + other + " behind sort " + sort + " at " + place, x.deed(other, -1, 0), deeds);
                        P.due("Promise 4: plate " + other + " behind sort " + sort + " at " + place, x.plate(other, -1, 1), lies);
                    }
                }
            }
        }
    }

    private static BreadTalk told(int each) {
        BreadTalk x = new BreadTalk();
        for (int i = 0; i < each; i++) {
            Probe.tell(x, 0, -1, "life 4;house 2 2;house 1 0;mind 0 0 for 2;said 1 1 for 1;said 0 0 for 2;loaf wafer 0;loaf bun 0;");
            Probe.tell(x, 1, -1, "eat 0 0;night;");
            Probe.tell(x, 2, -1, "lies 3;crumb bun 0 for 1;");
        }
        x.image(1);
        Probe.tell(x, 0, 0, "topics 7;");
        return x;
    }

    /** Promise 4: -2 in each of its cases: no text is read, FAULT 0, the tape is taken, all else stays. */
    private static void textRefused() {
        int[] wrongSorts = {-1, 3, 4, Integer.MIN_VALUE, Integer.MAX_VALUE};
        for (int each = 0; each <= 2; each++) {
            for (int sort : wrongSorts) {
                for (int at = -2; at <= 2; at++) {
                    textRefused(each, sort, at);
                }
            }
            for (int sort = 0; sort < 3; sort++) {
                for (int at : new int[] {-2, each, each + 1, Integer.MIN_VALUE, Integer.MAX_VALUE}) {
                    textRefused(each, sort, at);
                }
            }
        }
        for (int sort = 0; sort < 3; sort++) {
            textRefused(2, sort, -1);
        }
    }

    private static void textRefused(int each, int sort, int at) {
        String call = "Promise 4: with " + each + " of each text(" + sort + ", " + at + ")";
        for (String text : new String[] {"life 9;", "night;", "lies 9;", "@", "topics 0;", ""}) {
            BreadTalk x = told(each);
            Probe.put(x, text);
            P.due(call + " of " + text, x.text(sort, at), -2);
            P.due(call + " of " + text + ": FAULT", x.fault(0), 0);
            P.due(call + " of " + text + ": place", x.fault(1), -1);
            P.due(call + " of " + text + ": the tape is empty", x.end(1), -1);
            BreadTalk without = told(each);
            if (each == 0) {
                // There the town's text at 0 was refused as well.
                P.due("Promise 5: FAULT 0 where no text was read", without.fault(0), 0);
            }
            without.text(3, 0);
            List<String> behind = Survey.of(x);
            List<String> due = Survey.of(without);
            P.due(call + " of " + text + ": all else stays", behind.equals(due), true);
        }
    }

    /** Promise 4: a text with a FAULT: NONE, the tape is taken, what was told stays. */
    private static void textFaulty() {
        String[] faulty = {"x", "topics 9;", "crumb toast 5 for 3;", "eat 9 0;", "house 0 0;", "mind 7 0 for 1;", "said 0 5 for 1;"};
        for (int sort = 0; sort < 3; sort++) {
            for (String text : faulty) {
                for (int at = -1; at < 1; at++) {
                    BreadTalk x = told(1);
                    P.due("Promise 4: text(" + sort + ", " + at + ") of " + text, Probe.tell(x, sort, at, text), -1);
                    P.due("Promise 4: there is a FAULT", x.fault(0) >= 1 && x.fault(0) <= 5, true);
                    P.due("Promise 4: there is a place", x.fault(1) >= 0 && x.fault(1) <= text.length(), true);
                    P.due("Promise 4: the tape is empty", x.end(1), -1);
                    BreadTalk without = told(1);
                    without.text(3, 0);
                    x.text(3, 0);
                    P.due("Promise 4: all else stays behind " + text, Survey.of(x).equals(Survey.of(without)), true);
                }
            }
        }
    }

    private static void textOfNothing() {
        for (int sort = 0; sort < 3; sort++) {
            BreadTalk x = new BreadTalk();
            P.due("Promise 4: an empty tape is a text", x.text(sort, -1), 0);
            P.due("Promise 4: without FAULT", x.fault(0), 0);
            Probe.put(x, "\n \n");
            P.due("Promise 4: blanks are a text", x.text(sort, -1), 1);
            P.due("Promise 4: without FAULT", x.fault(0), 0);
            P.due("Promise 4: without place", x.fault(1), -1);
        }
    }

    private static void faultOfTheLatest() {
        BreadTalk x = new BreadTalk();
        Probe.tell(x, 0, -1, "life 3;life 0;");
        P.due("Promise 5: the FAULT", x.fault(0), 2);
        P.due("Promise 5: its place", x.fault(1), 12);
        feedBlanks(x);
        x.end(1);
        x.town(0, 0);
        x.count(0);
        x.image(0);
        P.due("Promise 5: it stays until the next text()", x.fault(0), 2);
        P.due("Promise 5: its place stays", x.fault(1), 12);
        Probe.tell(x, 0, -1, "@");
        P.due("Promise 5: of the latest", x.fault(0), 1);
        P.due("Promise 5: a place of 0", x.fault(1), 0);
        Probe.tell(x, 1, -1, "night;");
        P.due("Promise 5: 0 without", x.fault(0), 0);
        P.due("Promise 5: NONE without", x.fault(1), -1);
        Probe.tell(x, 0, -1, "@");
        x.text(-1, -1);
        P.due("Promise 5: 0 behind -2", x.fault(0), 0);
        P.due("Promise 5: NONE behind -2", x.fault(1), -1);
        P.due("Promise 5: another what", x.fault(2), -1);
        P.due("Promise 5: another what", x.fault(-1), -1);
        x.again(0);
        P.due("Promise 31: the FAULT as the image has it", x.fault(0), 2);
        P.due("Promise 31: its place as the image has it", x.fault(1), 12);
    }

    private static void count() {
        BreadTalk x = new BreadTalk();
        for (int i = 0; i < 4; i++) {
            for (int sort = 0; sort < 3; sort++) {
                P.due("Promise 29: count(" + sort + ") behind " + i, x.count(sort), Math.min(i, 2));
                x.text(sort, -1);
            }
        }
        P.due("Promise 29: a FAULT is no further one", Probe.tell(x, 0, 1, "x"), -1);
        P.due("Promise 29: a FAULT is no further one", x.count(0), 2);
        P.due("Promise 29: another sort", x.count(3), -2);
        P.due("Promise 29: another sort", x.count(-1), -2);
    }

    /** Promise 30: all that is told, the tape and the FAULT too. */
    private static void imageOfAll() {
        for (int k = 0; k < 3; k++) {
            BreadTalk x = told(2);
            Probe.put(x, "life 6;");
            P.due("Promise 30: image(" + k + ")", x.image(k), true);
            change(x);
            P.due("Promise 31: again(" + k + ")", x.again(k), true);
            BreadTalk without = told(2);
            Probe.put(without, "life 6;");
            without.image(k);
            P.due("Promise 31: all is as image " + k + " has it", Survey.of(x).equals(Survey.of(without)), true);
        }
    }

    private static void change(BreadTalk x) {
        for (int at = 0; at < 2; at++) {
            Probe.tell(x, 0, at, "topics 6;life 9;house 9 9;visit 0 1;house 1 1;mind 1 5 against 3;said 3 5 for 3;said 3 5 for 2;loaf toast 3;");
            Probe.tell(x, 1, at, "talk 1 2;bake toast 0;night;");
            Probe.tell(x, 2, at, "topics 6;lies 9;crumb wafer 5 against 3;crumb wafer 5 for 2;");
        }
        Probe.tell(x, 0, 0, "x");
        feedBlanks(x);
        x.end(11);
    }

    /** Promise 31: how many there are of each sort is as the image has it, be it more or fewer. */
    private static void imageOfCounts() {
        for (int sort = 0; sort < 3; sort++) {
            BreadTalk x = new BreadTalk();
            for (int k = 0; k < 3; k++) {
                x.image(k);
                x.text(sort, -1);
            }
            for (int k : new int[] {0, 2, 1, 0, 1, 2}) {
                P.due("Promise 31: again(" + k + ")", x.again(k), true);
                for (int other = 0; other < 3; other++) {
                    P.due("Promise 31: count(" + other + ") of image " + k, x.count(other), other == sort ? k : 0);
                }
                P.due("Promise 31: a further one behind image " + k, x.text(sort, -1), k < 2 ? k : -2);
            }
        }
    }

    private static void imageOver() {
        BreadTalk x = new BreadTalk();
        x.image(0);
        x.image(1);
        Probe.tell(x, 0, -1, "life 5;");
        P.due("Promise 30: an image over an older one", x.image(0), true);
        Probe.tell(x, 0, 0, "life 6;");
        P.due("Promise 31: the later image", x.again(0), true);
        P.due("Promise 31: the later image", x.town(0, 1), 5);
        P.due("Promise 31: the other image stays", x.again(1), true);
        P.due("Promise 31: the other image has none", x.count(0), 0);
        P.due("Promise 31: an image with more than there is", x.again(0), true);
        P.due("Promise 31: an image with more than there is", x.count(0), 1);
        P.due("Promise 31: an image with more than there is", x.town(0, 1), 5);
    }

    private static void againKeepsImages() {
        BreadTalk x = new BreadTalk();
        for (int k = 0; k < 3; k++) {
            Probe.tell(x, 0, k == 0 ? -1 : 0, "life " + (k + 4) + ";");
            x.image(k);
        }
        for (int i = 0; i < 9; i++) {
            int k = i * 2 % 3;
            P.due("Promise 31: images stay", x.again(k), true);
            P.due("Promise 31: images stay", x.town(0, 1), k + 4);
            Probe.tell(x, 0, 0, "life 9;");
            P.due("Promise 31: what comes behind is no image's", x.town(0, 1), 9);
        }
    }

    private static void againFromFull() {
        BreadTalk x = new BreadTalk();
        Probe.put(x, "life 6;");
        x.image(2);
        x.end(0);
        for (int i = 0; i < 30; i++) {
            feedBlanks(x);
        }
        x.image(1);
        x.again(2);
        P.due("Promise 31: the image's tape is short", x.end(8), -1);
        P.due("Promise 31: there is room behind it", feedBlanks(x), 27);
        P.due("Promise 31: the image's tape is a text", x.text(0, -1), 0);
        P.due("Promise 31: the image's tape is a text", x.town(0, 1), 6);
        x.again(1);
        P.due("Promise 31: the image's tape is full", feedBlanks(x), -1);
        P.due("Promise 31: the image's tape is full", x.end(600), 600);
        P.due("Promise 31: without towns again", x.count(0), 0);
        P.due("Promise 31: a full tape of blanks", x.text(0, -1), 0);
        Probe.put(x, " ".repeat(593) + "life 9;");
        x.image(0);
        x.end(0);
        Probe.put(x, " ".repeat(599) + "@");
        x.again(0);
        P.due("Promise 31: all 600 bytes, the last one too", x.text(0, 0), 0);
        P.due("Promise 31: all 600 bytes, the last one too", x.town(0, 1), 9);
    }

    private static void imagesOfNew() {
        BreadTalk x = new BreadTalk();
        P.due("Promise 30: image(-1)", x.image(-1), false);
        P.due("Promise 30: image(3)", x.image(3), false);
        for (int k = -1; k < 4; k++) {
            P.due("Promise 31: a refused image is none, again(" + k + ")", x.again(k), false);
        }
        P.due("Promise 30: image of nothing", x.image(2), true);
        P.due("Promise 31: none such", x.again(0), false);
        P.due("Promise 31: none such", x.again(1), false);
        P.due("Promise 31: again of nothing", x.again(2), true);
        P.due("Promise 31: nothing", x.count(0), 0);
    }

    /** An object is used for at most 512 calls: the 512th is answered as the first. */
    private static void manyCalls() {
        BreadTalk x = new BreadTalk();
        for (int i = 0; i < 102; i++) {
            x.feed(BLANKS, BLANKS, 0x6c696665, 0x20343b20, BLANKS);
            x.text(0, i == 0 ? -1 : 0);
            x.image(i % 3);
            x.again(i % 3);
            x.drawn(0, i, 60, 0);
        }
        P.due("call 511", x.count(0), 1);
        P.due("call 512", x.town(0, 1), 4);
    }
}
