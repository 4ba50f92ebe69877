import java.lang.reflect.Method;
import java.lang.reflect.Modifier;
import java.util.ArrayList;
import java.util.Comparator;
import java.util.List;
import java.util.Random;

/** Any calls with any numbers: none throws, and two objects with the same calls give the same answers. */
public final class AnyArgumentsTest {
    private static final Probe P = new Probe();
    private static final Random R = new Random(31);
    private static final int[] EDGES = {Integer.MIN_VALUE, Integer.MIN_VALUE + 1, -1001, -9, -2, 13, 36, 37, 60, 61, 99, 100,
        255, 256, 427, 428, 600, 601, 1 << 16, 1 << 30, Integer.MAX_VALUE - 1, Integer.MAX_VALUE};
    private static final String[] TEXTS = {
        "topics 6;" + "house 9 0;".repeat(8) + "visit 0 1;visit 1 2;visit 2 0;visit 7 0;said 0 5 for 3;said 0 0 for 2;said 3 1 against 3;"
            + "loaf rye 0;loaf wafer 0;loaf toast 3;loaf crust 0;loaf bun 3;loaf wafer 1;loaf wafer 3;loaf toast 0;mind 7 5 against 3;mind 0 0 for 1;",
        "topics 1;", "", "house 1 9;loaf wafer 2;",
        "bake rye 0;".repeat(20) + "night;eat 0 0;butter 7 15;talk 7 3;", "say 0 5 for 3;talk 0 0;night;eat 0 0;",
        "topics 6;lies 9;" + "crumb toast 5 against 3;".repeat(12), "topics 1;crumb bun 0 for 3;", "x", "topics 7;"};

    public static void main(String[] args) throws Exception {
        List<Method> face = new ArrayList<>();
        for (Method m : BreadTalk.class.getDeclaredMethods()) {
            if (Modifier.isPublic(m.getModifiers())) {
                face.add(m);
            }
        }
        face.sort(Comparator.comparing(Method::getName));
        P.due("methods of the face", face.size(), 30);
        for (int run = 0; run < 300; run++) {
            BreadTalk one = new BreadTalk();
            BreadTalk two = new BreadTalk();
            for (int call = 0; call < 470; call++) {
                if (R.nextInt(12) == 0) {
                    String text = TEXTS[R.nextInt(TEXTS.length)];
                    int sort = R.nextInt(3);
                    int at = R.nextInt(3) - 1;
                    P.due("text", Probe.tell(one, sort, at, text), Probe.tell(two, sort, at, text));
                    call += 30;
                }
                Method m = face.get(R.nextInt(face.size()));
                Object[] arguments = arguments(m);
                Object first = m.invoke(one, arguments);
                Object second = m.invoke(two, arguments);
                P.due(m.getName(), first.equals(second), true);
            }
        }
        P.end("AnyArgumentsTest");
    }

    private static Object[] arguments(Method m) {
        Object[] all = new Object[m.getParameterCount()];
        for (int i = 0; i < all.length; i++) {
            if (m.getParameterTypes()[i] == boolean.class) {
                all[i] = R.nextBoolean();
            } else {
                all[i] = number();
            }
        }
        return all;
    }

    private static int number() {
        return switch (R.nextInt(8)) {
            case 0 -> EDGES[R.nextInt(EDGES.length)];
            case 1 -> R.nextInt();
            case 2 -> R.nextInt(430);
            case 3 -> R.nextInt(64);
            case 4 -> R.nextInt(12) - 3;
            default -> R.nextInt(3) - (R.nextInt(4) == 0 ? 1 : 0);
        };
    }
}
