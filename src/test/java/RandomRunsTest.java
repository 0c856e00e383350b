import java.lang.reflect.Method;
import java.util.ArrayList;
import java.util.Arrays;
import java.util.Comparator;
import java.util.List;
import java.util.Random;

/** All promises: runs of calls, always the same ones, each answer compared with PlainTown's. */
public final class RandomRunsTest {
    private static final int RUNS = 400;
    private static final int CALLS = 512;
    private static final String[] WORDS = {"line", "wind", "meaning", "forget", "linen", "sheet", "stocking", "red",
        "torn", "black", "wet", ";", "-", "1", "3", "7", "10", "0", " ", "?", "12", "999", "linens"};

    private static final List<Method> ACTS = new ArrayList<>();
    private static final List<String> DEAR = List.of("orders", "most", "least", "order", "worths", "can");
    /** Calls on the object at hand: what it answers after its last one is free. */
    private static int made = 0;

    public static void main(String[] args) throws Exception {
        for (Method m : LinenSigns.class.getDeclaredMethods()) {
            if (java.lang.reflect.Modifier.isPublic(m.getModifiers())) {
                ACTS.add(m);
            }
        }
        ACTS.sort(Comparator.comparing(Method::getName));
        for (int run = 0; run < RUNS; run++) {
            run(run);
        }
        Due.end();
    }

    private static void run(int seed) throws Exception {
        Random random = new Random(seed);
        LinenSigns x = new LinenSigns();
        PlainTown plain = new PlainTown();
        made = 0;
        while (made < CALLS) {
            int dice = random.nextInt(100);
            if (dice < 20) {
                compare(seed, x, plain, "hang", random.nextInt(4), random.nextInt(6), 1 + random.nextInt(9));
            } else if (dice < 25) {
                tell(seed, random, x, plain);
            } else if (dice < 27) {
                fillSheet(seed, random, x, plain);
            } else if (dice < 32) {
                compare(seed, x, plain, "means", random.nextInt(10), random.nextInt(400) - 200);
            } else {
                Method act = ACTS.get(random.nextInt(ACTS.size()));
                // The plain way is slow with long lines: one of four is enough
                if (!DEAR.contains(act.getName()) || random.nextInt(4) == 0) {
                    compare(seed, x, plain, act.getName(), arguments(random, act));
                }
            }
        }
    }

    /** Mostly small arguments that mostly are allowed, at times strange ones. */
    private static long[] arguments(Random random, Method act) {
        long[] given = new long[act.getParameterCount()];
        boolean isStrange = random.nextInt(30) == 0;
        for (int i = 0; i < given.length; i++) {
            given[i] = isStrange ? strange(random) : common(random, act.getName(), i);
        }
        return given;
    }

    private static long common(Random random, String act, int place) {
        boolean isLine = place == 0 && !act.equals("days") && !act.equals("wind");
        if (isLine && !List.of("read", "feed", "best", "forget", "number", "means", "count", "status").contains(act)) {
            return random.nextInt(40) == 0 ? random.nextInt(8) - 2 : random.nextInt(4);
        }
        switch (act) {
            case "like":
            case "join":
            case "same":
            case "lays":
            case "show":
            case "check":
                return random.nextInt(4);
            case "order":
            case "read":
                return random.nextInt(600) - 300;
            case "write":
                return place == 1 ? random.nextInt(8) : random.nextInt(3) == 0 ? random.nextLong() : random.nextInt(62);
            case "sheet":
                return place == 1 ? new int[] {8, 16, 64, 16, 64, 0, 32}[random.nextInt(7)] : random.nextInt(44) - 1;
            case "wind":
            case "worthIn":
                return random.nextInt(8) == 0 ? random.nextInt(23) - 1 : random.nextInt(9);
            case "fewest":
            case "which":
            case "more":
            case "orders":
            case "best":
            case "number":
                return random.nextInt(11);
            case "days":
                return random.nextInt(3) == 0 ? 99 : random.nextInt(4);
            case "set":
                return place == 2 ? 1 + random.nextInt(2) : random.nextInt(10);
            default:
                return random.nextInt(8) - (random.nextInt(8) == 0 ? 1 : 0);
        }
    }

    private static int strange(Random random) {
        int[] some = {Integer.MIN_VALUE, Integer.MAX_VALUE, -1, 10000, -10000, 9999, -9999, 40, 41, 1 << 31 >> 8};
        return random.nextBoolean() ? random.nextInt() : some[random.nextInt(some.length)];
    }

    /** A sheet of garments, or of a line's worths so that check may find them. */
    private static void fillSheet(int seed, Random random, LinenSigns x, PlainTown plain) throws Exception {
        int s = random.nextInt(4);
        int line = random.nextInt(4);
        int length = plain.lines.get(line).size() + (random.nextInt(3) == 0 ? 1 : 0);
        boolean isWorths = random.nextBoolean();
        compare(seed, x, plain, "sheet", s, new int[] {8, 16, 64}[random.nextInt(3)], length);
        for (int i = 0; i < length; i++) {
            long worth = PlainTown.worth(plain.lines.get(line).subList(0, Math.min(i + 1, plain.lines.get(line).size())), plain.wind);
            boolean isWrong = random.nextInt(20) == 0;
            long code = 10 * random.nextInt(6) + 1 + random.nextInt(9);
            compare(seed, x, plain, "write", s, i, isWrong ? random.nextLong() : isWorths ? worth : code);
        }
        compare(seed, x, plain, isWorths ? "check" : "lays", s, line);
    }

    /** A text that mostly is one, with a wrong token now and then. */
    private static void tell(int seed, Random random, LinenSigns x, PlainTown plain) throws Exception {
        StringBuilder text = new StringBuilder();
        int items = 1 + random.nextInt(4);
        for (int i = 0; i < items; i++) {
            text.append(i == 0 ? "" : random.nextBoolean() ? ";" : " ; ").append(item(random));
        }
        while (random.nextInt(3) == 0) {
            String wrong = WORDS[random.nextInt(WORDS.length)];
            int place = random.nextInt(text.length() + 1);
            if (random.nextBoolean()) {
                text.insert(place, wrong);
            } else {
                text.replace(place, Math.min(text.length(), place + random.nextInt(6)), wrong);
            }
        }
        int at = 0;
        while (at < text.length() && at < 120) {
            int n = Math.min(text.length() - at, 1 + random.nextInt(4));
            int bytes = random.nextInt();
            for (int i = 0; i < n; i++) {
                bytes = bytes << 8 | text.charAt(at + i);
            }
            compare(seed, x, plain, "feed", bytes, n);
            at += n;
        }
        compare(seed, x, plain, "town");
    }

    private static String item(Random random) {
        switch (random.nextInt(6)) {
            case 0:
                return "wind " + random.nextInt(22);
            case 1:
                return "meaning " + random.nextInt(10) + (random.nextBoolean() ? " -" : " ") + random.nextInt(300);
            case 2:
                return "forget " + random.nextInt(10);
            default:
                StringBuilder line = new StringBuilder("line " + random.nextInt(4));
                for (int n = random.nextInt(9); n >= 1; n--) {
                    line.append(' ').append(WORDS[4 + random.nextInt(6)]).append(1 + random.nextInt(9));
                    line.append(random.nextInt(4) == 0 ? "wet" + random.nextInt(10) : "");
                }
                return line.toString();
        }
    }

    private static void compare(int seed, LinenSigns x, PlainTown plain, String name, long... given) throws Exception {
        if (made >= CALLS) {
            return;
        }
        made++;
        Method act = ACTS.stream().filter(m -> m.getName().equals(name)).findFirst().orElseThrow();
        Object[] boxed = new Object[given.length];
        for (int i = 0; i < given.length; i++) {
            boolean isInt = act.getParameterTypes()[i] == int.class;
            boxed[i] = isInt ? (Object) (int) given[i] : (Object) given[i];
        }
        long got = ((Number) act.invoke(x, boxed)).longValue();
        Due.is("run " + seed + ": " + name + Arrays.toString(given), got, plain.call(name, given));
    }
}
