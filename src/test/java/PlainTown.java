import java.util.ArrayList;
import java.util.Arrays;
import java.util.List;
import java.util.TreeMap;
import java.util.TreeSet;

/**
 * The document's words once more, in the slowest and plainest way, with the Java library;
 * to be compared with LinenSigns by RandomRunsTest. It shares how LinenSigns understands the document.
 */
final class PlainTown {
    record Garment(int kind, int size, int wet) {
        boolean under(int other) {
            return switch (other) {
                case 0 -> true;
                case 1 -> kind == 1 || kind == 4;
                case 2 -> kind == 2 || kind == 5;
                default -> kind == other;
            };
        }

        boolean seen(int wind) {
            int that = size + wet;
            return switch (kind) {
                case 0, 3 -> that >= wind;
                case 1, 4 -> that * 2 >= wind;
                case 2 -> that + 3 >= wind;
                default -> true;
            };
        }
    }

    record Kept(List<List<Garment>> lines, int wind, int day, TreeMap<Integer, Integer> meanings) {
    }

    /** A finding on its way out of an act. */
    private static final class Found extends RuntimeException {
        final int code;

        Found(int code) {
            super(null, null, false, false);
            this.code = code;
        }
    }

    private static final class Fault extends RuntimeException {
        final int place;

        Fault(int place) {
            super(null, null, false, false);
            this.place = place;
        }
    }

    List<List<Garment>> lines = new ArrayList<>();
    int wind = 0;
    int day = 0;
    TreeMap<Integer, Integer> meanings = new TreeMap<>();
    String tape = "";
    Kept kept = null;
    final Object[] sheets = new Object[4];
    final int[] told = new int[7];

    PlainTown() {
        for (int i = 0; i < 4; i++) {
            lines.add(new ArrayList<>());
        }
    }

    long call(String name, long... a) {
        try {
            return act(name, a);
        } catch (Found found) {
            told[-1000000001 - found.code]++;
            return found.code;
        }
    }

    private long act(String name, long[] v) {
        int[] a = new int[5];
        for (int i = 0; i < v.length; i++) {
            a[i] = (int) v[i];
        }
        switch (name) {
            case "hang": {
                List<Garment> line = line(a[0]);
                beyond(a[1] < 0 || a[1] > 5 || a[2] < 1 || a[2] > 9);
                if (line.size() == 7) {
                    throw new Found(Due.FULL);
                }
                line.add(new Garment(a[1], a[2], 0));
                return line.size() - 1;
            }
            case "off":
                garment(a[0], a[1]);
                return line(a[0]).remove(a[1]).size;
            case "of": {
                Garment g = garment(a[0], a[1]);
                beyond(a[2] < 0 || a[2] > 4);
                int worth = worth(line(a[0]).subList(0, a[1] + 1), wind);
                return new int[] {g.kind, g.size, g.wet, g.seen(wind) ? 1 : 0, worth}[a[2]];
            }
            case "set": {
                Garment g = garment(a[0], a[1]);
                beyond(a[2] != 1 && a[2] != 2 || a[3] < 2 - a[2] || a[3] > 9);
                boolean size = a[2] == 1;
                line(a[0]).set(a[1], size ? new Garment(g.kind, a[3], g.wet) : new Garment(g.kind, g.size, a[3]));
                return size ? g.size : g.wet;
            }
            case "turn": {
                Garment g = garment(a[0], a[1]);
                beyond(a[2] < 0 || a[2] > 5);
                line(a[0]).set(a[1], new Garment(a[2], g.size, g.wet));
                return g.kind;
            }
            case "as": {
                Garment g = garment(a[0], a[1]);
                beyond(a[2] < 0 || a[2] > 5);
                if (!g.under(a[2])) {
                    throw new Found(Due.KIND);
                }
                return g.size;
            }
            case "swap":
                garment(a[0], a[1]);
                garment(a[0], a[2]);
                java.util.Collections.swap(line(a[0]), a[1], a[2]);
                return Math.abs(a[1] - a[2]);
            case "take": {
                int n = line(a[0]).size();
                line(a[0]).clear();
                return n;
            }
            case "like": {
                line(a[0]);
                List<Garment> other = line(a[1]);
                lines.set(a[0], new ArrayList<>(other));
                return other.size();
            }
            case "wind": {
                beyond(a[0] < 0 || a[0] > 20);
                int was = wind;
                wind = a[0];
                return was;
            }
            case "days": {
                beyond(a[0] < 1 || a[0] > 99);
                if (day + a[0] > 9999) {
                    throw new Found(Due.STATE);
                }
                day += a[0];
                for (List<Garment> line : lines) {
                    line.replaceAll(g -> new Garment(g.kind, g.size, Math.max(0, g.wet - a[0])));
                }
                return lines.stream().flatMap(List::stream).filter(g -> g.wet == 0).count();
            }
            case "means": {
                meaning(a[0]);
                beyond(a[1] < -999 || a[1] > 9999);
                Integer was = meanings.put(a[0], a[1]);
                return was == null ? -1000 : was;
            }
            case "forget":
                meaning(a[0]);
                return meanings.remove(a[0]) == null ? 0 : 1;
            case "number":
                meaning(a[0]);
                none(!meanings.containsKey(a[0]));
                return meanings.get(a[0]);
            case "read":
                beyond(Math.abs((long) a[0]) > 9999);
                none(meanings.isEmpty());
                return read(a[0]);
            case "apart": {
                none(meanings.size() < 2);
                List<Integer> sorted = new ArrayList<>(meanings.values());
                sorted.sort(null);
                int least = Integer.MAX_VALUE;
                for (int i = 1; i < sorted.size(); i++) {
                    least = Math.min(least, sorted.get(i) - sorted.get(i - 1));
                }
                return least;
            }
            default:
                return actOfSaying(name, a, v);
        }
    }

    private long actOfSaying(String name, int[] a, long[] v) {
        switch (name) {
            case "worth":
                return worth(line(a[0]), wind);
            case "worthIn":
                line(a[0]);
                beyond(a[1] < 0 || a[1] > 20);
                return worth(line(a[0]), a[1]);
            case "says":
                line(a[0]);
                none(meanings.isEmpty());
                return read(worth(line(a[0]), wind));
            case "winds":
                line(a[0]);
                none(meanings.isEmpty());
                return winds(line(a[0]), read(worth(line(a[0]), wind)));
            case "lost": {
                List<Garment> line = line(a[0]);
                none(meanings.isEmpty());
                int set = 0;
                for (int peg = 0; peg < line.size(); peg++) {
                    List<Garment> rest = new ArrayList<>(line);
                    rest.remove(peg);
                    set += read(worth(rest, wind)) != read(worth(line, wind)) ? 1 << peg : 0;
                }
                return set;
            }
            case "fewest":
                return Integer.bitCount(which(a[0], a[1]));
            case "which":
                return which(a[0], a[1]);
            case "more": {
                List<Garment> line = line(a[0]);
                meaning(a[1]);
                for (int kind = 0; kind < 6; kind++) {
                    for (int size = 1; size < 10; size++) {
                        List<Garment> longer = new ArrayList<>(line);
                        longer.add(new Garment(kind, size, 0));
                        if (read(worth(longer, wind)) == a[1]) {
                            return 10 * kind + size;
                        }
                    }
                }
                throw new Found(Due.NONE);
            }
            case "orders": {
                line(a[0]);
                meaning(a[1]);
                none(!meanings.containsKey(a[1]));
                return orders(line(a[0])).stream().filter(o -> read(worth(o, wind)) == a[1]).count();
            }
            case "most":
                return orders(line(a[0])).stream().mapToInt(o -> worth(o, wind)).max().getAsInt();
            case "least":
                return orders(line(a[0])).stream().mapToInt(o -> worth(o, wind)).min().getAsInt();
            case "worths":
                return orders(line(a[0])).stream().mapToInt(o -> worth(o, wind)).distinct().count();
            case "can": {
                line(a[0]);
                none(meanings.isEmpty());
                return orders(line(a[0])).stream().mapToInt(o -> 1 << read(worth(o, wind))).distinct().sum();
            }
            case "order": {
                line(a[0]);
                beyond(Math.abs((long) a[1]) > 9999);
                List<Garment> best = null;
                for (List<Garment> o : orders(line(a[0]))) {
                    if (best == null || Math.abs(worth(o, wind) - a[1]) < Math.abs(worth(best, wind) - a[1])) {
                        best = o;
                    }
                }
                lines.set(a[0], best);
                return worth(best, wind);
            }
            case "join": {
                List<Garment> line = line(a[0]);
                List<Garment> other = line(a[1]);
                beyond(a[0] == a[1]);
                int best = -1;
                int most = Integer.MIN_VALUE;
                for (int peg = 0; peg <= line.size(); peg++) {
                    List<Garment> both = new ArrayList<>(other);
                    both.addAll(line.subList(peg, line.size()));
                    if (worth(both, wind) > most) {
                        best = peg;
                        most = worth(both, wind);
                    }
                }
                return best;
            }
            case "same": {
                List<Garment> one = line(a[0]);
                List<Garment> other = line(a[1]);
                int alike = 0;
                for (int peg = 0; peg < one.size() && peg < other.size(); peg++) {
                    Garment g = one.get(peg);
                    Garment h = other.get(peg);
                    alike += g.kind == h.kind && g.size == h.size ? 1 : 0;
                }
                return alike;
            }
            case "best": {
                meaning(a[0]);
                int best = -1;
                for (int i = 3; i >= 0; i--) {
                    int n = Integer.bitCount(winds(lines.get(i), a[0]));
                    if (n > 0 && (best < 0 || n >= Integer.bitCount(winds(lines.get(best), a[0])))) {
                        best = i;
                    }
                }
                none(best < 0);
                return best;
            }
            default:
                return actOfRest(name, a, v);
        }
    }

    private long actOfRest(String name, int[] a, long[] v) {
        switch (name) {
            case "feed": {
                beyond(a[1] < 1 || a[1] > 4);
                if (tape.length() + a[1] > 120) {
                    throw new Found(Due.FULL);
                }
                byte[] all = java.nio.ByteBuffer.allocate(4).putInt(a[0]).array();
                for (int i = 4 - a[1]; i < 4; i++) {
                    tape += (char) (all[i] & 255);
                }
                return tape.length();
            }
            case "wipe": {
                int n = tape.length();
                tape = "";
                return n;
            }
            case "town": {
                String text = tape;
                tape = "";
                Kept before = keep();
                try {
                    return new Reader(text).text();
                } catch (Fault fault) {
                    become(before);
                    return -1 - fault.place;
                }
            }
            case "sheet": {
                beyond(a[0] < 0 || a[0] > 3 || a[1] != 0 && a[1] != 8 && a[1] != 16 && a[1] != 64);
                if (a[2] < 0) {
                    throw new Found(Due.SIZE);
                }
                beyond(a[2] > 40);
                sheets[a[0]] = switch (a[1]) {
                    case 8 -> new byte[a[2]];
                    case 16 -> new short[a[2]];
                    case 64 -> new long[a[2]];
                    default -> null;
                };
                return a[1] == 0 ? 0 : a[2];
            }
            case "write": {
                Object sheet = sheet(a[0]);
                beyond(a[1] < 0 || a[1] >= length(sheet));
                long was = get(sheet, a[1]);
                put(sheet, a[1], v[2]);
                return was;
            }
            case "copy": {
                beyond(a[0] < 0 || a[0] > 3 || a[2] < 0 || a[2] > 3);
                Object s = sheet(a[0]);
                Object t = sheet(a[2]);
                if (s.getClass() != t.getClass()) {
                    throw new Found(Due.KIND);
                }
                beyond(a[1] < 0 || a[3] < 0 || a[4] < 0);
                beyond((long) a[1] + a[4] > length(s) || (long) a[3] + a[4] > length(t));
                System.arraycopy(s, a[1], t, a[3], a[4]);
                return a[4];
            }
            case "lays": {
                Object sheet = sheet(a[0]);
                List<Garment> line = line(a[1]);
                line.clear();
                for (int i = 0; i < length(sheet) && i < 7; i++) {
                    long code = get(sheet, i);
                    if (code < 1 || code > 59 || code % 10 == 0) {
                        break;
                    }
                    line.add(new Garment((int) code / 10, (int) code % 10, 0));
                }
                return line.size();
            }
            case "show": {
                Object sheet = sheet(a[0]);
                List<Garment> line = line(a[1]);
                int n = 0;
                for (int w = 0; w <= 20 && w < length(sheet); w++) {
                    put(sheet, w, worth(line, w));
                    n++;
                }
                return n;
            }
            case "check": {
                Object sheet = sheet(a[0]);
                List<Garment> line = line(a[1]);
                for (int i = 0; i < Math.max(length(sheet), line.size()); i++) {
                    boolean both = i < length(sheet) && i < line.size();
                    if (!both || get(sheet, i) != worth(line.subList(0, i + 1), wind)) {
                        return 1 + i;
                    }
                }
                return 0;
            }
            case "image":
                kept = keep();
                return 1;
            case "undo":
                none(kept == null);
                become(kept);
                return garments();
            case "tear": {
                boolean was = kept != null;
                kept = null;
                return was ? 1 : 0;
            }
            case "count":
                beyond(a[0] < 0 || a[0] > 4);
                return new int[] {garments(), meanings.size(), tape.length(), wind, day}[a[0]];
            case "status":
                beyond(a[0] < -1 || a[0] > 6);
                return a[0] == -1 ? Arrays.stream(told).sum() : told[a[0]];
            default:
                throw new IllegalArgumentException(name);
        }
    }

    private static void beyond(boolean isSo) {
        if (isSo) {
            throw new Found(Due.BEYOND);
        }
    }

    private static void none(boolean isSo) {
        if (isSo) {
            throw new Found(Due.NONE);
        }
    }

    private List<Garment> line(int line) {
        beyond(line < 0 || line > 3);
        return lines.get(line);
    }

    private Garment garment(int line, int peg) {
        beyond(peg < 0 || peg >= line(line).size());
        return line(line).get(peg);
    }

    private void meaning(int meaning) {
        beyond(meaning < 0 || meaning > 9);
    }

    private int garments() {
        return lines.stream().mapToInt(List::size).sum();
    }

    /** As what a worth is read; -1 without any meanings. */
    private int read(int worth) {
        return meanings.keySet().stream()
            .min((m, n) -> Math.abs(meanings.get(m) - worth) - Math.abs(meanings.get(n) - worth)).orElse(-1);
    }

    static int worth(List<Garment> row, int wind) {
        List<Garment> seen = row.stream().filter(g -> g.seen(wind)).toList();
        int v = 0;
        for (int i = 0; i < seen.size(); i++) {
            Garment g = seen.get(i);
            int ahead = 0;
            while (ahead < i && seen.get(i - 1 - ahead).under(2)) {
                ahead++;
            }
            int next = switch (g.kind) {
                case 0 -> v + g.size;
                case 1 -> v + 10 * g.size;
                case 2 -> v + 1 + ahead;
                case 3 -> 2 * v;
                case 4 -> v - 10 * g.size;
                default -> v % 2 != 0 ? v + 1 + ahead : v;
            };
            v = Math.min(9999, Math.max(-9999, next));
        }
        return v;
    }

    private int winds(List<Garment> line, int meaning) {
        int set = 0;
        for (int w = 0; w <= 20; w++) {
            set += meaning >= 0 && read(worth(line, w)) == meaning ? 1 << w : 0;
        }
        return set;
    }

    private int which(int ofLine, int meaning) {
        List<Garment> line = line(ofLine);
        meaning(meaning);
        TreeSet<Integer> sets = new TreeSet<>((s, t) -> Integer.bitCount(s) != Integer.bitCount(t)
            ? Integer.bitCount(s) - Integer.bitCount(t) : s - t);
        for (int set = 0; set < 1 << line.size(); set++) {
            List<Garment> rest = new ArrayList<>();
            for (int peg = 0; peg < line.size(); peg++) {
                if ((set & 1 << peg) == 0) {
                    rest.add(line.get(peg));
                }
            }
            if (read(worth(rest, wind)) == meaning) {
                sets.add(set);
            }
        }
        none(sets.isEmpty());
        return sets.first();
    }

    /** All orders, the least first by the pegs on which they hung. */
    private static List<List<Garment>> orders(List<Garment> line) {
        List<List<Garment>> all = new ArrayList<>();
        if (line.isEmpty()) {
            all.add(new ArrayList<>());
        }
        for (int first = 0; first < line.size(); first++) {
            List<Garment> rest = new ArrayList<>(line);
            Garment g = rest.remove(first);
            for (List<Garment> order : orders(rest)) {
                order.add(0, g);
                all.add(order);
            }
        }
        return all;
    }

    private Object sheet(int s) {
        beyond(s < 0 || s > 3);
        if (sheets[s] == null) {
            throw new Found(Due.MISSING);
        }
        return sheets[s];
    }

    private static int length(Object sheet) {
        return java.lang.reflect.Array.getLength(sheet);
    }

    private static long get(Object sheet, int i) {
        return java.lang.reflect.Array.getLong(sheet, i);
    }

    private static void put(Object sheet, int i, long v) {
        if (sheet instanceof byte[] bytes) {
            bytes[i] = (byte) v;
        } else if (sheet instanceof short[] shorts) {
            shorts[i] = (short) v;
        } else {
            ((long[]) sheet)[i] = v;
        }
    }

    private Kept keep() {
        List<List<Garment>> copy = new ArrayList<>();
        lines.forEach(line -> copy.add(new ArrayList<>(line)));
        return new Kept(copy, wind, day, new TreeMap<>(meanings));
    }

    private void become(Kept of) {
        lines = new ArrayList<>();
        of.lines.forEach(line -> lines.add(new ArrayList<>(line)));
        wind = of.wind;
        day = of.day;
        meanings = new TreeMap<>(of.meanings);
    }

    /** Cuts the text into tokens by a pattern first, then goes through them. */
    private final class Reader {
        private static final List<String> KINDS = List.of("linen", "sheet", "stocking", "red", "torn", "black");
        private final List<String> tokens = new ArrayList<>();
        private final List<Integer> places = new ArrayList<>();
        private int at = 0;

        Reader(String text) {
            java.util.regex.Matcher m = java.util.regex.Pattern.compile("[a-z]+|[0-9]+|[^ ]", java.util.regex.Pattern.DOTALL)
                .matcher(text);
            while (m.find()) {
                tokens.add(m.group());
                places.add(m.start());
            }
            tokens.add("");
            places.add(text.length());
        }

        private String token() {
            return tokens.get(at);
        }

        private Fault fault() {
            return new Fault(places.get(at));
        }

        private int number(int low, int high) {
            if (!token().matches("[0-9]+")) {
                throw fault();
            }
            java.math.BigInteger value = new java.math.BigInteger(token());
            if (value.bitLength() > 20 || value.intValue() < low || value.intValue() > high) {
                throw fault();
            }
            at++;
            return value.intValue();
        }

        int text() {
            int items = 0;
            do {
                if (items > 0) {
                    at++;
                }
                item();
                items++;
            } while (token().equals(";"));
            if (!token().isEmpty()) {
                throw fault();
            }
            return items;
        }

        private void item() {
            String word = token();
            if (!List.of("line", "wind", "meaning", "forget").contains(word)) {
                throw fault();
            }
            at++;
            switch (word) {
                case "line" -> line();
                case "wind" -> wind = number(0, 20);
                case "forget" -> meanings.remove(number(0, 9));
                default -> {
                    int meaning = number(0, 9);
                    if (token().equals("-")) {
                        at++;
                        meanings.put(meaning, -number(0, 999));
                    } else {
                        meanings.put(meaning, number(0, 9999));
                    }
                }
            }
        }

        private void line() {
            int line = number(0, 3);
            List<Garment> garments = new ArrayList<>();
            while (KINDS.contains(token()) && garments.size() < 7) {
                int kind = KINDS.indexOf(token());
                at++;
                int size = number(1, 9);
                int wet = 0;
                if (token().equals("wet")) {
                    at++;
                    wet = number(0, 9);
                }
                garments.add(new Garment(kind, size, wet));
            }
            if (garments.isEmpty() || KINDS.contains(token())) {
                throw fault();
            }
            lines.set(line, garments);
        }
    }
}
