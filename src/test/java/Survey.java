import java.util.ArrayList;
import java.util.List;

/** Asks an object so much that a call which left anything behind is noticed; each answer is told with its call. */
final class Survey {
    /** What a call answers, a boolean as 1 or 0. */
    interface Call {
        long on(BreadTalk x);
    }

    private final BreadTalk x;
    private final List<String> answers = new ArrayList<>();

    private Survey(BreadTalk of) {
        x = of;
    }

    /** Some 300 calls; the tape is taken and all images are gone through at the end. */
    static List<String> of(BreadTalk x) {
        Survey survey = new Survey(x);
        survey.whole();
        survey.tape();
        for (int k = 0; k < 3; k++) {
            survey.put("again(" + k + ")", x.again(k) ? 1 : 0);
            survey.sizes();
            survey.tape();
        }
        return survey.answers;
    }

    private void put(String call, long answer) {
        answers.add(call + " -> " + answer);
    }

    private void whole() {
        sizes();
        for (int town = 0; town < 2; town++) {
            for (int what : new int[] {10, 11, 20, 21, 30, 31, 40, 41, 50, 51}) {
                put("town(" + town + ", " + what + ")", x.town(town, what));
            }
            for (int house = 0; house < 2; house++) {
                for (int topic = 0; topic < 2; topic++) {
                    put("mind(" + town + ", " + house + ", " + topic + ")", x.mind(town, house, topic));
                }
            }
            for (int what = 0; what < 3; what++) {
                put("said(" + town + ", 1, " + what + ")", x.said(town, 1, what));
                put("shares(" + town + ", 0, " + what + ")", x.shares(town, 0, what));
                put("visits(" + town + ", 0, " + what + ")", x.visits(town, 0, what));
                put("agree(" + town + ", " + what + ")", x.agree(town, what));
                put("feast(" + town + ", 0, 3, 0, " + what + ")", x.feast(town, 0, 3, 0, what));
            }
            put("sway(" + town + ", 0, 0, true)", x.sway(town, 0, 0, true));
            put("rest(" + town + ", 0, -1)", x.rest(town, 0, -1));
            put("drawn(" + town + ", 5, 60, 0)", x.drawn(town, 5, 60, 0));
            put("drawn(" + town + ", 5, 60, 40)", x.drawn(town, 5, 60, 40));
            for (int days = 0; days < 2; days++) {
                days(town, days);
            }
        }
        for (int k = 0; k < 3; k++) {
            for (int what = 0; what < 4; what++) {
                put("deed(0, " + k + ", " + what + ")", x.deed(0, k, what));
            }
            put("plate(0, " + k + ", 2)", x.plate(0, k, 2));
            put("fits(0, " + k + ")", x.fits(0, k));
            put("fits(1, " + (10 + k) + ")", x.fits(1, 10 + k));
        }
    }

    private void days(int town, int days) {
        int stop = x.stop(town, days);
        put("stop(" + town + ", " + days + ")", stop);
        for (int what : new int[] {0, 1, 2, 3, 10, 20, 40, 100, 200, 240, 280, 300}) {
            put("state(" + town + ", " + days + ", " + stop + ", " + what + ")", x.state(town, days, stop, what));
        }
    }

    private void sizes() {
        for (int i = 0; i < 3; i++) {
            put("count(" + i + ")", x.count(i));
            put("plate(1, -1, " + i + ")", x.plate(1, -1, i));
        }
        put("fault(0)", x.fault(0));
        put("fault(1)", x.fault(1));
        for (int i = 0; i < 2; i++) {
            put("town(" + i + ", 1)", x.town(i, 1));
            put("town(" + i + ", 2)", x.town(i, 2));
            put("deed(" + i + ", -1, 0)", x.deed(i, -1, 0));
        }
    }

    /** How long the tape is, and what a town's text of it tells. */
    private void tape() {
        put("feed of blanks", x.feed(0x20202020, 0x20202020, 0x20202020, 0x20202020, 0x20202020));
        put("end(590)", x.end(590));
        put("text(0, ..)", x.text(0, x.count(0) > 0 ? 0 : -1));
        put("fault(0) of the tape", x.fault(0));
        put("fault(1) of the tape", x.fault(1));
        put("town(0, 1) of the tape", x.town(0, 1));
        put("feed behind the tape", x.feed(0, 0, 0, 0, 0));
    }

    /** A call that is refused: its answer, and that all later answers are as if it had not been. */
    static void refused(Probe p, java.util.function.Supplier<BreadTalk> made, String name, Call call, long want) {
        BreadTalk one = made.get();
        BreadTalk other = made.get();
        p.due(name, call.on(one), want);
        List<String> behind = of(one);
        List<String> without = of(other);
        for (int i = 0; i < behind.size(); i++) {
            boolean same = behind.get(i).equals(without.get(i));
            p.due(name + ": behind it " + behind.get(i) + ", without it " + without.get(i) + ": the same", same, true);
        }
    }
}
