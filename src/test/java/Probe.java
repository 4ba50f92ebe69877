/** What the tests share: feeding a text, comparing answers, the exit code. */
final class Probe {
    private static final int SHOWN = 40;
    private int wrong;
    private int calls;

    void due(String call, long got, long want) {
        calls++;
        if (got != want) {
            wrong++;
            if (wrong <= SHOWN) {
                System.out.println(call + " answered " + got + ", due is " + want);
            }
        }
    }

    void due(String call, boolean got, boolean want) {
        due(call, got ? 1 : 0, want ? 1 : 0);
    }

    /** Puts a text's bytes on the tape, behind what is there. */
    static void put(BreadTalk x, String text) {
        int[] five = new int[5];
        int total = 0;
        for (int from = 0; from < text.length(); from += 20) {
            for (int i = 0; i < 5; i++) {
                five[i] = 0;
                for (int j = 0; j < 4; j++) {
                    int at = from + i * 4 + j;
                    five[i] = five[i] << 8 | (at < text.length() ? text.charAt(at) & 255 : 0);
                }
            }
            total = x.feed(five[0], five[1], five[2], five[3], five[4]);
        }
        if (text.isEmpty()) {
            return;
        }
        int padding = (20 - text.length() % 20) % 20;
        x.end(total - padding);
    }

    static int tell(BreadTalk x, int sort, int at, String text) {
        x.end(0);
        put(x, text);
        return x.text(sort, at);
    }

    static BreadTalk withTown(String text) {
        BreadTalk x = new BreadTalk();
        if (tell(x, 0, -1, text) != 0) {
            throw new IllegalStateException("no town: " + text + ": fault " + x.fault(0) + " at " + x.fault(1));
        }
        return x;
    }

    static BreadTalk withDays(String town, String days) {
        BreadTalk x = withTown(town);
        if (tell(x, 1, -1, days) != 0) {
            throw new IllegalStateException("no days: " + days + ": fault " + x.fault(0) + " at " + x.fault(1));
        }
        return x;
    }

    static BreadTalk withPlate(String text) {
        BreadTalk x = new BreadTalk();
        if (tell(x, 2, -1, text) != 0) {
            throw new IllegalStateException("no plate: " + text + ": fault " + x.fault(0) + " at " + x.fault(1));
        }
        return x;
    }

    void end(String name) {
        System.out.println(name + ": " + calls + " answers, " + wrong + " not as due");
        if (wrong != 0) {
            System.exit(1);
        }
    }
}
