import java.util.function.Supplier;

/** Every call that the document lets be refused, promise by promise: its answer, and that it leaves all as it was. */
public final class RefusedTest {
    private static final Probe P = new Probe();
    private static final int LOW = Integer.MIN_VALUE;
    private static final int HIGH = Integer.MAX_VALUE;
    /** Numbers beside 0 .. 1. */
    private static final int[] NO_SUCH = {-1, 2, LOW, HIGH};

    private static final String TOWN = "topics 2;life 2;house 5 2;house 3 0;mind 0 0 for 2;mind 1 1 against 1;visit 0 1;visit 1 0;"
            + "said 1 0 for 1;said 1 0 against 3;said 1 1 for 2;loaf rye 1;loaf bun 1;loaf crust 1;";

    public static void main(String[] args) {
        ofNew();
        feed();
        end();
        fault();
        town();
        mind();
        said();
        deed();
        stop();
        state();
        shares();
        feast();
        agree();
        side();
        visits();
        sign();
        sales();
        rest();
        plate();
        fits();
        jury();
        bound();
        drawn();
        apart();
        factions();
        pivots();
        sway();
        count();
        images();
        P.end("RefusedTest");
    }

    /** Two of each sort, images 0 and 2, a fault, and a text on the tape. */
    private static BreadTalk full() {
        BreadTalk x = new BreadTalk();
        x.image(0);
        Probe.tell(x, 0, -1, TOWN);
        Probe.tell(x, 1, -1, "eat 0 0;talk 0 2;bake wafer 2;night;");
        Probe.tell(x, 2, -1, "topics 2;lies 1;crumb bun 1 for 1;crumb wafer 0 against 2;");
        Probe.put(x, "life 7;");
        x.image(2);
        Probe.tell(x, 0, -1, "house 1 1;loaf wafer 3;");
        Probe.tell(x, 1, -1, "talk 0 0;eat 0 9;");
        Probe.tell(x, 2, -1, "crumb toast 2 for 3;lies 2;");
        Probe.tell(x, 0, 1, "life 0;");
        Probe.put(x, "life 8;");
        return x;
    }

    /** As full(), with plates by which nothing fits, and no loaf that could be given. */
    private static BreadTalk bare() {
        BreadTalk x = new BreadTalk();
        Probe.tell(x, 0, -1, "topics 6;house 1 0;mind 0 0 against 1;");
        Probe.tell(x, 1, -1, "");
        Probe.tell(x, 2, -1, "topics 2;crumb wafer 0 for 1;crumb wafer 0 for 2;");
        return x;
    }

    private static BreadTalk withTape(int length) {
        BreadTalk x = full();
        x.end(0);
        Probe.put(x, "life 6;" + " ".repeat(length - 7));
        return x;
    }

    private static void no(String name, Survey.Call call, long want) {
        Survey.refused(P, RefusedTest::full, name, call, want);
    }

    private static void no(Supplier<BreadTalk> made, String name, Survey.Call call, long want) {
        Survey.refused(P, made, name, call, want);
    }

    /** Promise 1: without anything told each question has the answer that there is none such. */
    private static void ofNew() {
        Supplier<BreadTalk> made = BreadTalk::new;
        no(made, "Promise 1: of a new object town(0, 0)", x -> x.town(0, 0), -1);
        no(made, "Promise 1: of a new object mind(0, 0, 0)", x -> x.mind(0, 0, 0), -9);
        no(made, "Promise 1: of a new object said(0, 0, 0)", x -> x.said(0, 0, 0), -9);
        no(made, "Promise 1: of a new object deed(0, -1, 0)", x -> x.deed(0, -1, 0), -9);
        no(made, "Promise 1: of a new object stop(0, 0)", x -> x.stop(0, 0), -1);
        no(made, "Promise 1: of a new object state(0, 0, 0, 0)", x -> x.state(0, 0, 0, 0), -1000);
        no(made, "Promise 1: of a new object shares(0, 0, 0)", x -> x.shares(0, 0, 0), -1000);
        no(made, "Promise 1: of a new object feast(0, 0, 0, 0, 0)", x -> x.feast(0, 0, 0, 0, 0), -1000);
        no(made, "Promise 1: of a new object agree(0, 0)", x -> x.agree(0, 0), -1);
        no(made, "Promise 1: of a new object side(0, 0, 0)", x -> x.side(0, 0, 0), -1);
        no(made, "Promise 1: of a new object visits(0, 0, 0)", x -> x.visits(0, 0, 0), -1);
        no(made, "Promise 1: of a new object sign(0, 0, 0, 0)", x -> x.sign(0, 0, 0, 0), -9);
        no(made, "Promise 1: of a new object sales(0, 0, 0, 0, false)", x -> x.sales(0, 0, 0, 0, false), -1);
        no(made, "Promise 1: of a new object rest(0, 0, -1)", x -> x.rest(0, 0, -1), -1);
        no(made, "Promise 1: of a new object plate(0, -1, 0)", x -> x.plate(0, -1, 0), -9);
        no(made, "Promise 1: of a new object fits(0, 0)", x -> x.fits(0, 0), -9);
        no(made, "Promise 1: of a new object drawn(0, 0, 0, 0)", x -> x.drawn(0, 0, 0, 0), -1000);
        no(made, "Promise 1: of a new object apart(0, 0, 0)", x -> x.apart(0, 0, 0), -1);
        no(made, "Promise 1: of a new object factions(0, 0, -1)", x -> x.factions(0, 0, -1), -1);
        no(made, "Promise 1: of a new object pivots(0, 0)", x -> x.pivots(0, 0), -1);
        no(made, "Promise 1: of a new object sway(0, 0, 0, false)", x -> x.sway(0, 0, 0, false), -1);
        no(made, "Promise 1: of a new object end(1)", x -> x.end(1), -1);
        for (int k = 0; k < 3; k++) {
            int image = k;
            no(made, "Promise 1: of a new object again(" + k + ")", x -> x.again(image) ? 1 : 0, 0);
        }
    }

    private static void feed() {
        for (int length : new int[] {581, 590, 599, 600}) {
            no(() -> withTape(length), "Promise 2: feed behind " + length + " bytes", x -> x.feed(-1, -1, -1, -1, -1), -1);
        }
    }

    private static void end() {
        for (int n : new int[] {-1, 8, 600, 601, LOW, HIGH}) {
            no("Promise 3: end(" + n + ") of 7 bytes", x -> x.end(n), -1);
        }
        for (int n : new int[] {-1, 601, LOW, HIGH}) {
            no(() -> withTape(600), "Promise 3: end(" + n + ") of 600 bytes", x -> x.end(n), -1);
        }
    }

    private static void fault() {
        for (int what : new int[] {-1, 2, LOW, HIGH}) {
            no("Promise 5: fault(" + what + ")", x -> x.fault(what), -1);
        }
    }

    private static void town() {
        for (int town : NO_SUCH) {
            for (int what : new int[] {0, 10, 20, 30, 40, 50}) {
                no("Promise 6: town(" + town + ", " + what + "): no such TOWN", x -> x.town(town, what), -1);
            }
        }
        for (int what : new int[] {-1, 5, 9, 12, 17, 18, 19, 22, 27, 28, 29, 32, 37, 38, 39, 43, 47, 48, 49, 53, 57, 58, 59, 60, 100, LOW, HIGH}) {
            no("Promise 6: town(0, " + what + "): no such HOUSE, LOAF, or what", x -> x.town(0, what), -1);
        }
    }

    private static void mind() {
        for (int other : NO_SUCH) {
            no("Promise 7: mind(" + other + ", 0, 0): no such TOWN", x -> x.mind(other, 0, 0), -9);
            no("Promise 7: mind(0, " + other + ", 0): no such HOUSE", x -> x.mind(0, other, 0), -9);
            no("Promise 7: mind(0, 0, " + other + "): no such TOPIC", x -> x.mind(0, 0, other), -9);
        }
    }

    private static void said() {
        for (int other : NO_SUCH) {
            no("Promise 8: said(" + other + ", 0, 0): no such TOWN", x -> x.said(other, 0, 0), -9);
        }
        for (int other : new int[] {-1, 3, LOW, HIGH}) {
            no("Promise 8: said(0, " + other + ", 0): no such SAID", x -> x.said(0, other, 0), -9);
            no("Promise 8: said(0, 0, " + other + "): another what", x -> x.said(0, 0, other), -9);
        }
    }

    private static void deed() {
        for (int other : NO_SUCH) {
            no("Promise 9: deed(" + other + ", 0, 0): no such DAYS", x -> x.deed(other, 0, 0), -9);
            no("Promise 9: deed(" + other + ", -1, 0): no such DAYS", x -> x.deed(other, -1, 0), -9);
        }
        for (int other : new int[] {-2, 4, LOW, HIGH}) {
            no("Promise 9: deed(0, " + other + ", 0): no such DEED", x -> x.deed(0, other, 0), -9);
        }
        for (int other : new int[] {-1, 4, LOW, HIGH}) {
            no("Promise 9: deed(0, 0, " + other + "): another what", x -> x.deed(0, 0, other), -9);
        }
        for (int other : new int[] {-1, 1, 2, 3, 4}) {
            no("Promise 9: deed(0, -1, " + other + "): how many is what 0 alone", x -> x.deed(0, -1, other), -9);
        }
    }

    private static void stop() {
        for (int other : NO_SUCH) {
            no("Promise 10: stop(" + other + ", 0): no such TOWN", x -> x.stop(other, 0), -1);
            no("Promise 10: stop(0, " + other + "): no such DAYS", x -> x.stop(0, other), -1);
        }
    }

    private static void state() {
        for (int other : NO_SUCH) {
            no("Promise 11: state(" + other + ", 0, 0, 0): no such TOWN", x -> x.state(other, 0, 0, 0), -1000);
            no("Promise 11: state(0, " + other + ", 0, 0): no such DAYS", x -> x.state(0, other, 0, 0), -1000);
        }
        for (int n : new int[] {-1, 5, 41, LOW, HIGH}) {
            no("Promise 11: state(0, 0, " + n + ", 0): no such STATE", x -> x.state(0, 0, n, 0), -1000);
        }
        no("Promise 11: state(1, 1, 2, 0): behind STOP", x -> x.state(1, 1, 2, 0), -1000);
        int[] wrong = {-1, 4, 9, 12, 16, 19, 23, 36, 39, 42, 45, 48, 52, 88, 99, 102, 118, 196, 199, 202, 224, 239, 242, 264, 279, 284, 299,
            303, 315, 319, 331, 332, 428, LOW, HIGH};
        for (int what : wrong) {
            no("Promise 11: state(0, 0, 0, " + what + "): no such HOUSE, LOAF, TOPIC, or what", x -> x.state(0, 0, 0, what), -1000);
        }
    }

    private static void shares() {
        for (int other : NO_SUCH) {
            for (int what = 0; what < 3; what++) {
                int asked = what;
                no("Promise 12: shares(" + other + ", 0, " + what + "): no such TOWN", x -> x.shares(other, 0, asked), -1000);
                no("Promise 12: shares(0, " + other + ", " + what + "): no such TOPIC", x -> x.shares(0, other, asked), -1000);
            }
        }
        for (int what : new int[] {-1, 3, LOW, HIGH}) {
            no("Promise 12: shares(0, 0, " + what + "): another what", x -> x.shares(0, 0, what), -1000);
        }
        no(RefusedTest::bare, "Promise 12: shares(0, 0, 1): by none", x -> x.shares(0, 0, 1), -1);
        no(RefusedTest::bare, "Promise 12: shares(0, 0, 2): by none", x -> x.shares(0, 0, 2), -1);
    }

    private static void feast() {
        for (int other : NO_SUCH) {
            no("Promise 13: feast(" + other + ", 0, 1, 0, 0): no such TOWN", x -> x.feast(other, 0, 1, 0, 0), -1000);
            no("Promise 13: feast(0, " + other + ", 1, 0, 0): no such HOUSE", x -> x.feast(0, other, 1, 0, 0), -1000);
            no("Promise 13: feast(0, 0, 1, " + other + ", 0): no such TOPIC", x -> x.feast(0, 0, 1, other, 0), -1000);
        }
        for (int what : new int[] {-1, 3, LOW, HIGH}) {
            no("Promise 13: feast(0, 0, 1, 0, " + what + "): another what", x -> x.feast(0, 0, 1, 0, what), -1000);
        }
        for (int loaves : new int[] {8, 9, 256, 1 << 30, -1, LOW, HIGH}) {
            no("Promise 13: feast(0, 0, " + loaves + ", 0, 0): one is not there", x -> x.feast(0, 0, loaves, 0, 0), -1000);
        }
        Supplier<BreadTalk> eight = () -> Probe.withTown("house 1 0;" + "loaf wafer 0;".repeat(8));
        for (int loaves : new int[] {127, 254, 255}) {
            for (int what = 0; what < 3; what++) {
                int asked = what;
                no(eight, "Promise 13: feast(0, 0, " + loaves + ", 0, " + what + "): more than 6", x -> x.feast(0, 0, loaves, 0, asked), -1000);
            }
        }
    }

    private static void agree() {
        for (int other : NO_SUCH) {
            for (int what = 0; what < 3; what++) {
                int asked = what;
                no("Promise 14: agree(" + other + ", " + what + "): no such TOWN", x -> x.agree(other, asked), -1);
            }
        }
        for (int what : new int[] {-1, 3, LOW, HIGH}) {
            no("Promise 14: agree(0, " + what + "): another what", x -> x.agree(0, what), -1);
        }
    }

    private static void side() {
        for (int other : NO_SUCH) {
            no("Promise 15: side(" + other + ", 0, 0): no such TOWN", x -> x.side(other, 0, 0), -1);
            no("Promise 15: side(0, 0, " + other + "): no such TOPIC", x -> x.side(0, 0, other), -1);
        }
        for (int loaf : new int[] {-1, 3, 8, LOW, HIGH}) {
            no("Promise 15: side(0, " + loaf + ", 0): no such LOAF", x -> x.side(0, loaf, 0), -1);
        }
    }

    private static void visits() {
        for (int other : NO_SUCH) {
            for (int what = 0; what < 3; what++) {
                int asked = what;
                no("Promise 16: visits(" + other + ", 0, " + what + "): no such TOWN", x -> x.visits(other, 0, asked), -1);
                no("Promise 16: visits(0, " + other + ", " + what + "): no such TOPIC", x -> x.visits(0, other, asked), -1);
            }
        }
        for (int what : new int[] {-1, 3, LOW, HIGH}) {
            no("Promise 16: visits(0, 0, " + what + "): another what", x -> x.visits(0, 0, what), -1);
        }
    }

    private static void sign() {
        for (int other : NO_SUCH) {
            no("Promise 17: sign(" + other + ", 0, 0, 0): no such TOWN", x -> x.sign(other, 0, 0, 0), -9);
            no("Promise 17: sign(0, " + other + ", 0, 0): no such TOPIC", x -> x.sign(0, other, 0, 0), -9);
            no("Promise 17: sign(0, 0, " + other + ", 0): no such HOUSE", x -> x.sign(0, 0, other, 0), -9);
        }
        for (int n : new int[] {-1, 100, LOW, HIGH}) {
            no("Promise 17: sign(0, 0, 0, " + n + "): another n", x -> x.sign(0, 0, 0, n), -9);
        }
    }

    private static void sales() {
        for (int other : NO_SUCH) {
            no("Promise 18: sales(" + other + ", 0, 0, 1, false): no such TOWN", x -> x.sales(other, 0, 0, 1, false), -1);
            no("Promise 18: sales(0, " + other + ", 0, 1, true): no such TOPIC", x -> x.sales(0, other, 0, 1, true), -1);
        }
        for (int view : new int[] {-4, 4, LOW, HIGH}) {
            no("Promise 18: sales(0, 0, " + view + ", 0, false): no such VIEW", x -> x.sales(0, 0, view, 0, false), -1);
            no("Promise 18: sales(0, 0, " + view + ", 0, true): no such VIEW", x -> x.sales(0, 0, view, 0, true), -1);
            no("Promise 18: sales(0, 0, 0, " + view + ", false): no such VIEW", x -> x.sales(0, 0, 0, view, false), -1);
            no("Promise 18: sales(0, 0, 0, " + view + ", true): no such VIEW", x -> x.sales(0, 0, 0, view, true), -1);
        }
    }

    private static void rest() {
        for (int other : NO_SUCH) {
            for (int k = -1; k < 1; k++) {
                int asked = k;
                no("Promise 19: rest(" + other + ", 0, " + k + "): no such TOWN", x -> x.rest(other, 0, asked), -1);
                no("Promise 19: rest(0, " + other + ", " + k + "): no such TOPIC", x -> x.rest(0, other, asked), -1);
            }
        }
        for (int k : new int[] {-2, 49, LOW, HIGH}) {
            no("Promise 19: rest(0, 0, " + k + "): no such couple", x -> x.rest(0, 0, k), -1);
        }
        no("Promise 19: rest(0, 0, as many as there are)", x -> x.rest(0, 0, x.rest(0, 0, -1)), -1);
    }

    private static void plate() {
        for (int other : NO_SUCH) {
            no("Promise 20: plate(" + other + ", -1, 0): no such PLATE", x -> x.plate(other, -1, 0), -9);
            no("Promise 20: plate(" + other + ", 0, 0): no such PLATE", x -> x.plate(other, 0, 0), -9);
        }
        for (int k : new int[] {-2, 2, 12, LOW, HIGH}) {
            no("Promise 20: plate(0, " + k + ", 0): no such CRUMB", x -> x.plate(0, k, 0), -9);
        }
        for (int what : new int[] {-1, 3, LOW, HIGH}) {
            no("Promise 20: plate(0, -1, " + what + "): another what", x -> x.plate(0, -1, what), -9);
            no("Promise 20: plate(0, 0, " + what + "): another what", x -> x.plate(0, 0, what), -9);
        }
    }

    private static void fits() {
        for (int other : NO_SUCH) {
            for (int what : new int[] {0, 1, 2, 10, 20}) {
                no("Promise 21: fits(" + other + ", " + what + "): no such PLATE", x -> x.fits(other, what), -9);
            }
        }
        for (int what : new int[] {-1, 3, 9, 12, 16, 19, 22, 26, 29, 30, 100, LOW, HIGH}) {
            no("Promise 21: fits(0, " + what + "): no such TOPIC, or what", x -> x.fits(0, what), -9);
        }
        for (int what : new int[] {2, 10, 11, 20, 21}) {
            no(RefusedTest::bare, "Promise 21: fits(0, " + what + "): nothing FITS", x -> x.fits(0, what), -9);
        }
    }

    private static void jury() {
        int[][] others = {{0, 0, 5}, {13, 0, 5}, {-1, 0, 5}, {LOW, 0, 5}, {HIGH, 0, 5}, {3, -1, 5}, {3, 14, 5}, {3, LOW, 5}, {3, HIGH, 5},
            {3, 1, -1}, {3, 1, 11}, {3, 1, LOW}, {3, 1, HIGH}, {12, 14, 10}, {0, 14, 11}};
        for (int[] o : others) {
            String name = "Promise 22: jury(" + o[0] + ", " + o[1] + ", " + o[2] + ", ..): other numbers";
            no(name, x -> x.jury(o[0], o[1], o[2], false), -1);
            no(name, x -> x.jury(o[0], o[1], o[2], true), -1);
        }
    }

    private static void bound() {
        int[][] others = {{0, 5, 5}, {13, 5, 5}, {-1, 5, 5}, {LOW, 5, 5}, {HIGH, 5, 5}, {3, -1, 5}, {3, 11, 5}, {3, LOW, 5}, {3, HIGH, 5},
            {3, 5, -1}, {3, 5, 11}, {3, 5, LOW}, {3, 5, HIGH}};
        for (int[] o : others) {
            no("Promise 23: bound(" + o[0] + ", " + o[1] + ", " + o[2] + "): other numbers", x -> x.bound(o[0], o[1], o[2]), -1);
        }
    }

    private static void drawn() {
        for (int other : NO_SUCH) {
            no("Promise 24: drawn(" + other + ", 1, 1, 0): no such TOWN", x -> x.drawn(other, 1, 1, 0), -1000);
        }
        for (int n : new int[] {-1, 61, LOW, HIGH}) {
            no("Promise 24: drawn(0, 1, " + n + ", 0): another n", x -> x.drawn(0, 1, n, 0), -1000);
        }
        for (int what : new int[] {-1, 4, 9, 12, 19, 36, 39, 42, 52, 99, 102, 196, 199, 202, 224, 242, 264, 284, 299, 332, 428, LOW, HIGH}) {
            no("Promise 24: drawn(0, 1, 60, " + what + "): another what", x -> x.drawn(0, 1, 60, what), -1000);
        }
    }

    private static void apart() {
        for (int other : NO_SUCH) {
            no("Promise 25: apart(" + other + ", 0, 0): no such TOWN", x -> x.apart(other, 0, 0), -1);
            no("Promise 25: apart(0, " + other + ", 0): no such HOUSE", x -> x.apart(0, other, 0), -1);
            no("Promise 25: apart(0, 0, " + other + "): no such HOUSE", x -> x.apart(0, 0, other), -1);
            no("Promise 25: apart(0, " + other + ", " + other + "): no such HOUSES", x -> x.apart(0, other, other), -1);
        }
    }

    private static void factions() {
        for (int other : NO_SUCH) {
            no("Promise 26: factions(" + other + ", 1, -1): no such TOWN", x -> x.factions(other, 1, -1), -1);
            no("Promise 26: factions(" + other + ", 1, 0): no such TOWN", x -> x.factions(other, 1, 0), -1);
        }
        for (int n : new int[] {-1, 37, LOW, HIGH}) {
            no("Promise 26: factions(0, " + n + ", -1): another n", x -> x.factions(0, n, -1), -1);
            no("Promise 26: factions(0, " + n + ", 0): another n", x -> x.factions(0, n, 0), -1);
        }
        for (int house : new int[] {-2, 2, 8, LOW, HIGH}) {
            no("Promise 26: factions(0, 1, " + house + "): no such HOUSE", x -> x.factions(0, 1, house), -1);
        }
    }

    private static void pivots() {
        for (int other : NO_SUCH) {
            no("Promise 27: pivots(" + other + ", 0): no such TOWN", x -> x.pivots(other, 0), -1);
            no("Promise 27: pivots(0, " + other + "): no such TOPIC", x -> x.pivots(0, other), -1);
        }
    }

    private static void sway() {
        for (int other : NO_SUCH) {
            for (int i = 0; i < 2; i++) {
                boolean bits = i == 1;
                no("Promise 28: sway(" + other + ", 0, 0, " + bits + "): no such TOWN", x -> x.sway(other, 0, 0, bits), -1);
                no("Promise 28: sway(0, " + other + ", 0, " + bits + "): no such HOUSE", x -> x.sway(0, other, 0, bits), -1);
                no("Promise 28: sway(0, 0, " + other + ", " + bits + "): no such TOPIC", x -> x.sway(0, 0, other, bits), -1);
            }
        }
        no(RefusedTest::bare, "Promise 28: sway(0, 0, 0, false): by none", x -> x.sway(0, 0, 0, false), -1);
        no(RefusedTest::bare, "Promise 28: sway(0, 0, 0, true): by none", x -> x.sway(0, 0, 0, true), -1);
    }

    private static void count() {
        for (int sort : new int[] {-1, 3, LOW, HIGH}) {
            no("Promise 29: count(" + sort + "): another sort", x -> x.count(sort), -2);
        }
    }

    private static void images() {
        for (int k : new int[] {-1, 3, LOW, HIGH}) {
            no("Promise 30: image(" + k + "): another k", x -> x.image(k) ? 1 : 0, 0);
            no("Promise 31: again(" + k + "): none such", x -> x.again(k) ? 1 : 0, 0);
        }
        no("Promise 31: again(1): none such", x -> x.again(1) ? 1 : 0, 0);
    }
}
