import java.util.Arrays;

/** A town that speaks by its washing; the promises are told in DOC.md. */
public final class LinenSigns {
    private static final int BEYOND = -1000000001;
    private static final int FULL = -1000000002;
    private static final int KIND = -1000000003;
    private static final int NONE = -1000000004;
    private static final int STATE = -1000000005;
    private static final int MISSING = -1000000006;
    private static final int SIZE = -1000000007;
    private static final int FINDINGS = 7;

    private static final int LINEN = 0;
    private static final int SHEET = 1;
    private static final int STOCKING = 2;
    private static final int RED = 3;
    private static final int TORN = 4;
    private static final int BLACK = 5;
    private static final int KINDS = 6;
    /** The kind that each kind stands right under; -1 under none. */
    private static final int[] UNDER = {-1, LINEN, LINEN, LINEN, SHEET, STOCKING};

    private static final int LINES = 4;
    private static final int PEGS = 7;
    private static final int MEANINGS = 10;
    private static final int LARGEST_SIZE = 9;
    private static final int WETTEST = 9;
    private static final int STRONGEST_WIND = 20;
    private static final int LAST_DAY = 9999;
    private static final int MOST_DAYS_AT_ONCE = 99;
    private static final int WORTH_LIMIT = 9999;
    private static final int LEAST_NUMBER = -999;
    private static final int GREATEST_NUMBER = 9999;
    private static final int NO_NUMBER = -1000;
    private static final int NO_MEANING = -1;

    private static final int TAPE_BYTES = 120;
    private static final int SHEETS = 4;
    private static final int SHEET_NUMBERS = 40;

    private final Town town = new Town();
    private final Town kept = new Town();
    private final Town draft = new Town();
    private final Voice voice = new Voice();
    private final Orders ways = new Orders(town);
    private final Tape tape = new Tape();
    private final Sheet[] sheets = new Sheet[SHEETS];
    private final int[] findings = new int[FINDINGS];
    private boolean isKept = false;

    public LinenSigns() {
        for (int s = 0; s < SHEETS; s++) {
            sheets[s] = new Sheet();
        }
    }

    // ---- lines

    public int hang(int line, int kind, int size) {
        if (!isLine(line) || !isKind(kind) || !isSize(size)) {
            return finding(BEYOND);
        }
        Row row = town.rows[line];
        if (row.length >= PEGS) {
            return finding(FULL);
        }
        row.add(kind, size, 0);
        return row.length - 1;
    }

    public int off(int line, int peg) {
        if (!isGarment(line, peg)) {
            return finding(BEYOND);
        }
        Row row = town.rows[line];
        int size = row.sizes[peg];
        row.remove(peg);
        return size;
    }

    public int of(int line, int peg, int what) {
        if (!isGarment(line, peg)) {
            return finding(BEYOND);
        }
        Row row = town.rows[line];
        switch (what) {
            case 0:
                return row.kinds[peg];
            case 1:
                return row.sizes[peg];
            case 2:
                return row.wets[peg];
            case 3:
                return row.isSeenAt(peg, town.wind) ? 1 : 0;
            case 4:
                return worthBehind(row, peg);
            default:
                return finding(BEYOND);
        }
    }

    public int set(int line, int peg, int what, int v) {
        if (!isGarment(line, peg)) {
            return finding(BEYOND);
        }
        Row row = town.rows[line];
        if (what == 1 && isSize(v)) {
            int was = row.sizes[peg];
            row.sizes[peg] = v;
            return was;
        }
        if (what == 2 && isWithin(v, 0, WETTEST)) {
            int was = row.wets[peg];
            row.wets[peg] = v;
            return was;
        }
        return finding(BEYOND);
    }

    public int turn(int line, int peg, int kind) {
        if (!isGarment(line, peg) || !isKind(kind)) {
            return finding(BEYOND);
        }
        Row row = town.rows[line];
        int was = row.kinds[peg];
        row.kinds[peg] = kind;
        return was;
    }

    public int as(int line, int peg, int kind) {
        if (!isGarment(line, peg) || !isKind(kind)) {
            return finding(BEYOND);
        }
        Row row = town.rows[line];
        if (!isOfKind(row.kinds[peg], kind)) {
            return finding(KIND);
        }
        return row.sizes[peg];
    }

    public int swap(int line, int one, int other) {
        if (!isGarment(line, one) || !isGarment(line, other)) {
            return finding(BEYOND);
        }
        town.rows[line].exchange(one, other);
        return Math.abs(one - other);
    }

    public int take(int line) {
        if (!isLine(line)) {
            return finding(BEYOND);
        }
        Row row = town.rows[line];
        int garments = row.length;
        row.clear();
        return garments;
    }

    public int like(int line, int other) {
        if (!isLine(line) || !isLine(other)) {
            return finding(BEYOND);
        }
        town.rows[line].become(town.rows[other]);
        return town.rows[line].length;
    }

    public int wind(int v) {
        if (!isWind(v)) {
            return finding(BEYOND);
        }
        int was = town.wind;
        town.wind = v;
        return was;
    }

    public int days(int n) {
        if (!isWithin(n, 1, MOST_DAYS_AT_ONCE)) {
            return finding(BEYOND);
        }
        if (town.day + n > LAST_DAY) {
            return finding(STATE);
        }
        return town.letDaysGo(n);
    }

    // ---- meanings

    public int means(int meaning, int number) {
        if (!isMeaning(meaning) || !isWithin(number, LEAST_NUMBER, GREATEST_NUMBER)) {
            return finding(BEYOND);
        }
        int was = town.numbers[meaning];
        town.numbers[meaning] = number;
        return was;
    }

    public int forget(int meaning) {
        if (!isMeaning(meaning)) {
            return finding(BEYOND);
        }
        int had = town.hasNumber(meaning) ? 1 : 0;
        town.numbers[meaning] = NO_NUMBER;
        return had;
    }

    public int number(int meaning) {
        if (!isMeaning(meaning)) {
            return finding(BEYOND);
        }
        if (!town.hasNumber(meaning)) {
            return finding(NONE);
        }
        return town.numbers[meaning];
    }

    public int read(int worth) {
        if (!isWorth(worth)) {
            return finding(BEYOND);
        }
        int meaning = town.readAs(worth);
        return meaning == NO_MEANING ? finding(NONE) : meaning;
    }

    public int apart() {
        if (town.meaningsTold() < 2) {
            return finding(NONE);
        }
        return town.leastDifference();
    }

    // ---- what a line says

    public int worth(int line) {
        if (!isLine(line)) {
            return finding(BEYOND);
        }
        return worthOf(town.rows[line], town.wind);
    }

    public int worthIn(int line, int wind) {
        if (!isLine(line) || !isWind(wind)) {
            return finding(BEYOND);
        }
        return worthOf(town.rows[line], wind);
    }

    public int says(int line) {
        if (!isLine(line)) {
            return finding(BEYOND);
        }
        int meaning = readNow(town.rows[line]);
        return meaning == NO_MEANING ? finding(NONE) : meaning;
    }

    public int winds(int line) {
        if (!isLine(line)) {
            return finding(BEYOND);
        }
        Row row = town.rows[line];
        int now = readNow(row);
        return now == NO_MEANING ? finding(NONE) : windsReadAs(row, now);
    }

    public int lost(int line) {
        if (!isLine(line)) {
            return finding(BEYOND);
        }
        Row row = town.rows[line];
        int now = readNow(row);
        if (now == NO_MEANING) {
            return finding(NONE);
        }
        int pegs = 0;
        for (int peg = 0; peg < row.length; peg++) {
            if (readWithout(row, 1 << peg) != now) {
                pegs |= 1 << peg;
            }
        }
        return pegs;
    }

    public int fewest(int line, int meaning) {
        if (!isLine(line) || !isMeaning(meaning)) {
            return finding(BEYOND);
        }
        int pegs = fewestOff(town.rows[line], meaning);
        return pegs < 0 ? finding(NONE) : Integer.bitCount(pegs);
    }

    public int which(int line, int meaning) {
        if (!isLine(line) || !isMeaning(meaning)) {
            return finding(BEYOND);
        }
        int pegs = fewestOff(town.rows[line], meaning);
        return pegs < 0 ? finding(NONE) : pegs;
    }

    public int more(int line, int meaning) {
        if (!isLine(line) || !isMeaning(meaning)) {
            return finding(BEYOND);
        }
        Row row = town.rows[line];
        for (int code = 1; code < 10 * KINDS; code++) {
            if (isGarmentCode(code) && readWithOneMore(row, code) == meaning) {
                return code;
            }
        }
        return finding(NONE);
    }

    // ---- orders

    public int orders(int line, int meaning) {
        if (!isLine(line) || !isMeaning(meaning)) {
            return finding(BEYOND);
        }
        if (!town.hasNumber(meaning)) {
            return finding(NONE);
        }
        ways.walk(town.rows[line], meaning, 0);
        return ways.readSo;
    }

    public int most(int line) {
        if (!isLine(line)) {
            return finding(BEYOND);
        }
        ways.walk(town.rows[line], NO_MEANING, 0);
        return ways.greatest;
    }

    public int least(int line) {
        if (!isLine(line)) {
            return finding(BEYOND);
        }
        ways.walk(town.rows[line], NO_MEANING, 0);
        return ways.smallest;
    }

    public int order(int line, int number) {
        if (!isLine(line) || !isWorth(number)) {
            return finding(BEYOND);
        }
        Row row = town.rows[line];
        ways.walk(row, NO_MEANING, number);
        ways.arrangeNearest(row);
        return ways.nearest;
    }

    public int worths(int line) {
        if (!isLine(line)) {
            return finding(BEYOND);
        }
        ways.walk(town.rows[line], NO_MEANING, 0);
        return ways.unlikeWorths();
    }

    public int can(int line) {
        if (!isLine(line)) {
            return finding(BEYOND);
        }
        if (town.meaningsTold() == 0) {
            return finding(NONE);
        }
        ways.walk(town.rows[line], NO_MEANING, 0);
        return ways.meaningsMet();
    }

    // ---- two lines

    public int join(int line, int other) {
        if (!isLine(line) || !isLine(other) || line == other) {
            return finding(BEYOND);
        }
        Row row = town.rows[line];
        int best = 0;
        int bestWorth = worthJoined(town.rows[other], row, 0);
        for (int peg = 1; peg <= row.length; peg++) {
            int worth = worthJoined(town.rows[other], row, peg);
            if (worth > bestWorth) {
                best = peg;
                bestWorth = worth;
            }
        }
        return best;
    }

    public int same(int one, int other) {
        if (!isLine(one) || !isLine(other)) {
            return finding(BEYOND);
        }
        return town.rows[one].pegsLike(town.rows[other]);
    }

    public int best(int meaning) {
        if (!isMeaning(meaning)) {
            return finding(BEYOND);
        }
        int best = -1;
        int mostWinds = 0;
        for (int line = 0; line < LINES; line++) {
            int winds = Integer.bitCount(windsReadAs(town.rows[line], meaning));
            if (winds > mostWinds) {
                best = line;
                mostWinds = winds;
            }
        }
        return best < 0 ? finding(NONE) : best;
    }

    // ---- the text

    public int feed(int bytes, int n) {
        if (!isWithin(n, 1, 4)) {
            return finding(BEYOND);
        }
        if (tape.length + n > TAPE_BYTES) {
            return finding(FULL);
        }
        for (int i = n - 1; i >= 0; i--) {
            tape.add((bytes >>> (8 * i)) & 255);
        }
        return tape.length;
    }

    public int wipe() {
        int had = tape.length;
        tape.length = 0;
        return had;
    }

    public int town() {
        draft.become(town);
        int answer = tape.tell(draft);
        tape.length = 0;
        if (answer >= 0) {
            town.become(draft);
        }
        return answer;
    }

    // ---- sheets

    public int sheet(int s, int bits, int n) {
        if (!isSheet(s) || !isBits(bits)) {
            return finding(BEYOND);
        }
        if (n < 0) {
            return finding(SIZE);
        }
        if (n > SHEET_NUMBERS) {
            return finding(BEYOND);
        }
        sheets[s].begin(bits, n);
        return sheets[s].length;
    }

    public long write(int s, int i, long v) {
        int refused = sheetFinding(s);
        if (refused != 0) {
            return finding(refused);
        }
        Sheet sheet = sheets[s];
        if (!isWithin(i, 0, sheet.length - 1)) {
            return finding(BEYOND);
        }
        long was = sheet.cells[i];
        sheet.put(i, v);
        return was;
    }

    public int copy(int s, int from, int t, int to, int n) {
        if (!isSheet(s) || !isSheet(t)) {
            return finding(BEYOND);
        }
        Sheet source = sheets[s];
        Sheet target = sheets[t];
        if (source.bits == 0 || target.bits == 0) {
            return finding(MISSING);
        }
        if (source.bits != target.bits) {
            return finding(KIND);
        }
        if (!source.hasRange(from, n) || !target.hasRange(to, n)) {
            return finding(BEYOND);
        }
        System.arraycopy(source.cells, from, target.cells, to, n);
        return n;
    }

    public int lays(int s, int line) {
        int refused = sheetAndLineFinding(s, line);
        if (refused != 0) {
            return finding(refused);
        }
        Sheet sheet = sheets[s];
        Row row = town.rows[line];
        row.clear();
        int end = Math.min(sheet.length, PEGS);
        for (int i = 0; i < end && isGarmentCode(sheet.cells[i]); i++) {
            int code = (int) sheet.cells[i];
            row.add(code / 10, code % 10, 0);
        }
        return row.length;
    }

    public int show(int s, int line) {
        int refused = sheetAndLineFinding(s, line);
        if (refused != 0) {
            return finding(refused);
        }
        Sheet sheet = sheets[s];
        int end = Math.min(sheet.length, STRONGEST_WIND + 1);
        for (int wind = 0; wind < end; wind++) {
            sheet.put(wind, worthOf(town.rows[line], wind));
        }
        return end;
    }

    public int check(int s, int line) {
        int refused = sheetAndLineFinding(s, line);
        if (refused != 0) {
            return finding(refused);
        }
        Sheet sheet = sheets[s];
        Row row = town.rows[line];
        int end = Math.min(sheet.length, row.length);
        for (int peg = 0; peg < end; peg++) {
            if (sheet.cells[peg] != worthBehind(row, peg)) {
                return 1 + peg;
            }
        }
        return sheet.length == row.length ? 0 : 1 + end;
    }

    // ---- images

    public int image() {
        kept.become(town);
        isKept = true;
        return 1;
    }

    public int undo() {
        if (!isKept) {
            return finding(NONE);
        }
        town.become(kept);
        return town.garments();
    }

    public int tear() {
        int was = isKept ? 1 : 0;
        isKept = false;
        return was;
    }

    public int count(int what) {
        switch (what) {
            case 0:
                return town.garments();
            case 1:
                return town.meaningsTold();
            case 2:
                return tape.length;
            case 3:
                return town.wind;
            case 4:
                return town.day;
            default:
                return finding(BEYOND);
        }
    }

    public int status(int which) {
        if (!isWithin(which, -1, FINDINGS - 1)) {
            return finding(BEYOND);
        }
        if (which >= 0) {
            return findings[which];
        }
        int all = 0;
        for (int i = 0; i < FINDINGS; i++) {
            all += findings[i];
        }
        return all;
    }

    // ---- what may be asked for

    private int finding(int code) {
        int place = BEYOND - code;
        if (isWithin(place, 0, FINDINGS - 1)) {
            findings[place]++;
        }
        return code;
    }

    private boolean isGarment(int line, int peg) {
        return isLine(line) && isWithin(peg, 0, town.rows[line].length - 1);
    }

    /** Why a sheet can't be used, or 0. */
    private int sheetFinding(int s) {
        if (!isSheet(s)) {
            return BEYOND;
        }
        return sheets[s].bits == 0 ? MISSING : 0;
    }

    private int sheetAndLineFinding(int s, int line) {
        int refused = sheetFinding(s);
        if (refused == 0 && !isLine(line)) {
            return BEYOND;
        }
        return refused;
    }

    private static boolean isWithin(int v, int low, int high) {
        return v >= low && v <= high;
    }

    private static boolean isLine(int line) {
        return isWithin(line, 0, LINES - 1);
    }

    private static boolean isKind(int kind) {
        return isWithin(kind, 0, KINDS - 1);
    }

    private static boolean isSize(int size) {
        return isWithin(size, 1, LARGEST_SIZE);
    }

    private static boolean isWind(int wind) {
        return isWithin(wind, 0, STRONGEST_WIND);
    }

    private static boolean isMeaning(int meaning) {
        return isWithin(meaning, 0, MEANINGS - 1);
    }

    private static boolean isWorth(int worth) {
        return isWithin(worth, -WORTH_LIMIT, WORTH_LIMIT);
    }

    private static boolean isSheet(int s) {
        return isWithin(s, 0, SHEETS - 1);
    }

    private static boolean isBits(int bits) {
        return bits == 0 || bits == 8 || bits == 16 || bits == 64;
    }

    /** Whether a number is 10 times a kind, and a size; long, as numbers of sheets are. */
    private static boolean isGarmentCode(long code) {
        return code > 0 && code < 10 * KINDS && code % 10 != 0;
    }

    // ---- what is said

    private static boolean isOfKind(int kind, int wanted) {
        int above = kind;
        for (int step = 0; step < KINDS && isKind(above); step++) {
            if (above == wanted) {
                return true;
            }
            above = UNDER[above];
        }
        return false;
    }

    private static boolean isSeen(int kind, int size, int wet, int wind) {
        int height = size + wet;
        switch (kind) {
            case SHEET:
            case TORN:
                return 2 * height >= wind;
            case STOCKING:
                return height + 3 >= wind;
            case BLACK:
                return true;
            default:
                return height >= wind;
        }
    }

    /** What v becomes by a garment that is seen, with so many stockings just ahead of it. */
    private static int worthAfter(int v, int stockings, int kind, int size) {
        switch (kind) {
            case SHEET:
                return held(v + 10 * size);
            case STOCKING:
                return held(v + 1 + stockings);
            case RED:
                return held(2 * v);
            case TORN:
                return held(v - 10 * size);
            case BLACK:
                return (v & 1) == 0 ? v : held(v + 1 + stockings);
            default:
                return held(v + size);
        }
    }

    /** How many stockings stand just ahead of what comes behind a garment that is seen. */
    private static int stockingsAfter(int stockings, int kind) {
        return kind == STOCKING || kind == BLACK ? stockings + 1 : 0;
    }

    private static int held(int v) {
        if (v > WORTH_LIMIT) {
            return WORTH_LIMIT;
        }
        return v < -WORTH_LIMIT ? -WORTH_LIMIT : v;
    }

    private int worthOf(Row row, int wind) {
        voice.begin(wind);
        voice.hear(row, 0, row.length, 0);
        return voice.worth;
    }

    private int worthBehind(Row row, int peg) {
        voice.begin(town.wind);
        voice.hear(row, 0, peg + 1, 0);
        return voice.worth;
    }

    private int worthJoined(Row ahead, Row behind, int from) {
        voice.begin(town.wind);
        voice.hear(ahead, 0, ahead.length, 0);
        voice.hear(behind, from, behind.length, 0);
        return voice.worth;
    }

    private int readNow(Row row) {
        return town.readAs(worthOf(row, town.wind));
    }

    private int readWithout(Row row, int pegs) {
        voice.begin(town.wind);
        voice.hear(row, 0, row.length, pegs);
        return town.readAs(voice.worth);
    }

    private int readWithOneMore(Row row, int code) {
        voice.begin(town.wind);
        voice.hear(row, 0, row.length, 0);
        voice.hearGarment(code / 10, code % 10, 0);
        return town.readAs(voice.worth);
    }

    private int windsReadAs(Row row, int meaning) {
        int winds = 0;
        for (int wind = 0; wind <= STRONGEST_WIND; wind++) {
            if (town.readAs(worthOf(row, wind)) == meaning) {
                winds |= 1 << wind;
            }
        }
        return winds;
    }

    /** The least set of the fewest pegs without which a row is read so, or -1. */
    private int fewestOff(Row row, int meaning) {
        int best = -1;
        int fewest = PEGS + 1;
        int end = 1 << row.length;
        for (int pegs = 0; pegs < end; pegs++) {
            int garments = Integer.bitCount(pegs);
            if (garments < fewest && readWithout(row, pegs) == meaning) {
                best = pegs;
                fewest = garments;
            }
        }
        return best;
    }

    /** The garments of one line. */
    private static final class Row {
        final int[] kinds = new int[PEGS];
        final int[] sizes = new int[PEGS];
        final int[] wets = new int[PEGS];
        int length = 0;

        void clear() {
            length = 0;
        }

        void add(int kind, int size, int wet) {
            if (length < PEGS) {
                put(length, kind, size, wet);
                length++;
            }
        }

        private void put(int peg, int kind, int size, int wet) {
            kinds[peg] = kind;
            sizes[peg] = size;
            wets[peg] = wet;
        }

        void remove(int peg) {
            for (int i = peg + 1; i < length; i++) {
                put(i - 1, kinds[i], sizes[i], wets[i]);
            }
            length--;
        }

        void exchange(int one, int other) {
            int kind = kinds[one];
            int size = sizes[one];
            int wet = wets[one];
            put(one, kinds[other], sizes[other], wets[other]);
            put(other, kind, size, wet);
        }

        void become(Row other) {
            for (int i = 0; i < other.length; i++) {
                put(i, other.kinds[i], other.sizes[i], other.wets[i]);
            }
            length = other.length;
        }

        boolean isSeenAt(int peg, int wind) {
            return isSeen(kinds[peg], sizes[peg], wets[peg], wind);
        }

        int pegsLike(Row other) {
            int alike = 0;
            int end = Math.min(length, other.length);
            for (int i = 0; i < end; i++) {
                if (kinds[i] == other.kinds[i] && sizes[i] == other.sizes[i]) {
                    alike++;
                }
            }
            return alike;
        }

        /** How many are dry after n days. */
        int dry(int n) {
            int dried = 0;
            for (int i = 0; i < length; i++) {
                wets[i] = Math.max(0, wets[i] - n);
                if (wets[i] == 0) {
                    dried++;
                }
            }
            return dried;
        }
    }

    /** All that an image keeps. */
    private static final class Town {
        final Row[] rows = new Row[LINES];
        final int[] numbers = new int[MEANINGS];
        int wind = 0;
        int day = 0;

        Town() {
            for (int line = 0; line < LINES; line++) {
                rows[line] = new Row();
            }
            Arrays.fill(numbers, NO_NUMBER);
        }

        void become(Town other) {
            for (int line = 0; line < LINES; line++) {
                rows[line].become(other.rows[line]);
            }
            System.arraycopy(other.numbers, 0, numbers, 0, MEANINGS);
            wind = other.wind;
            day = other.day;
        }

        int garments() {
            int all = 0;
            for (int line = 0; line < LINES; line++) {
                all += rows[line].length;
            }
            return all;
        }

        int letDaysGo(int n) {
            int dried = 0;
            for (int line = 0; line < LINES; line++) {
                dried += rows[line].dry(n);
            }
            day += n;
            return dried;
        }

        boolean hasNumber(int meaning) {
            return numbers[meaning] != NO_NUMBER;
        }

        int meaningsTold() {
            int told = 0;
            for (int meaning = 0; meaning < MEANINGS; meaning++) {
                if (hasNumber(meaning)) {
                    told++;
                }
            }
            return told;
        }

        int readAs(int worth) {
            int nearest = NO_MEANING;
            int distance = 0;
            for (int meaning = 0; meaning < MEANINGS; meaning++) {
                if (hasNumber(meaning)) {
                    int difference = Math.abs(numbers[meaning] - worth);
                    if (nearest == NO_MEANING || difference < distance) {
                        nearest = meaning;
                        distance = difference;
                    }
                }
            }
            return nearest;
        }

        int leastDifference() {
            int least = GREATEST_NUMBER - LEAST_NUMBER;
            for (int one = 0; one < MEANINGS; one++) {
                for (int other = one + 1; other < MEANINGS; other++) {
                    if (hasNumber(one) && hasNumber(other)) {
                        least = Math.min(least, Math.abs(numbers[one] - numbers[other]));
                    }
                }
            }
            return least;
        }
    }

    /** What has been said so far, garment behind garment, in one wind. */
    private static final class Voice {
        int worth = 0;
        private int stockings = 0;
        private int wind = 0;

        void begin(int inWind) {
            worth = 0;
            stockings = 0;
            wind = inWind;
        }

        void hear(Row row, int from, int to, int withoutPegs) {
            for (int peg = from; peg < to; peg++) {
                if ((withoutPegs >> peg & 1) == 0) {
                    hearGarment(row.kinds[peg], row.sizes[peg], row.wets[peg]);
                }
            }
        }

        void hearGarment(int kind, int size, int wet) {
            if (isSeen(kind, size, wet, wind)) {
                worth = worthAfter(worth, stockings, kind, size);
                stockings = stockingsAfter(stockings, kind);
            }
        }
    }

    /** A walk through all orders of a row, and what was met on it. */
    private static final class Orders {
        private static final int WORTHS = 2 * WORTH_LIMIT + 1;
        private static final int WORTH_WORDS = (WORTHS + 63) / 64;

        private final Town town;
        private final Row row = new Row();
        private final int[] sayings = new int[PEGS];
        private final int[] twins = new int[PEGS];
        private final int[] pegs = new int[PEGS];
        private final int[] nearestPegs = new int[PEGS];
        private final long[] met = new long[WORTH_WORDS];
        private int meaning = NO_MEANING;
        private int aim = 0;
        private int weight = 1;
        private int hungPegs = 0;
        private boolean isFirst = true;
        int readSo = 0;
        int greatest = 0;
        int smallest = 0;
        int nearest = 0;

        Orders(Town ofTown) {
            town = ofTown;
        }

        void walk(Row ofRow, int countedMeaning, int number) {
            row.become(ofRow);
            meaning = countedMeaning;
            aim = number;
            readSo = 0;
            isFirst = true;
            Arrays.fill(met, 0L);
            hungPegs = 0;
            findTwins();
            hangNext(0, 0, 0);
        }

        /**
         * Garments that say the same can change places in any order without another worth:
         * only the order with their pegs rising is walked, and it weighs as many as it stands for.
         */
        private void findTwins() {
            weight = 1;
            for (int peg = 0; peg < row.length; peg++) {
                sayings[peg] = saying(peg);
                twins[peg] = -1;
                int alike = 1;
                for (int ahead = 0; ahead < peg; ahead++) {
                    if (sayings[ahead] == sayings[peg]) {
                        twins[peg] = ahead;
                        alike++;
                    }
                }
                weight *= alike;
            }
        }

        /** A number for what a garment does to any worth; 0 for nothing, as it isn't seen. */
        private int saying(int peg) {
            if (!row.isSeenAt(peg, town.wind)) {
                return 0;
            }
            int kind = row.kinds[peg];
            boolean countsSize = kind == LINEN || kind == SHEET || kind == TORN;
            return 10 * kind + (countsSize ? row.sizes[peg] : LARGEST_SIZE);
        }

        private void hangNext(int place, int worth, int stockings) {
            if (place >= row.length || place >= PEGS) {
                arrive(worth);
                return;
            }
            for (int peg = 0; peg < row.length; peg++) {
                if (mayHang(peg)) {
                    hungPegs |= 1 << peg;
                    pegs[place] = peg;
                    sayThenHangNext(peg, place, worth, stockings);
                    hungPegs &= ~(1 << peg);
                }
            }
        }

        private void sayThenHangNext(int peg, int place, int worth, int stockings) {
            if (sayings[peg] == 0) {
                hangNext(place + 1, worth, stockings);
                return;
            }
            int kind = row.kinds[peg];
            int then = worthAfter(worth, stockings, kind, row.sizes[peg]);
            hangNext(place + 1, then, stockingsAfter(stockings, kind));
        }

        private boolean mayHang(int peg) {
            return !isHanging(peg) && (twins[peg] < 0 || isHanging(twins[peg]));
        }

        private boolean isHanging(int peg) {
            return (hungPegs >> peg & 1) != 0;
        }

        private void arrive(int worth) {
            if (isWorth(worth)) {
                int place = worth + WORTH_LIMIT;
                met[place >> 6] |= 1L << (place & 63);
            }
            if (meaning != NO_MEANING && town.readAs(worth) == meaning) {
                readSo += weight;
            }
            if (isFirst || Math.abs(worth - aim) < Math.abs(nearest - aim)) {
                nearest = worth;
                System.arraycopy(pegs, 0, nearestPegs, 0, PEGS);
            }
            greatest = isFirst ? worth : Math.max(greatest, worth);
            smallest = isFirst ? worth : Math.min(smallest, worth);
            isFirst = false;
        }

        void arrangeNearest(Row target) {
            target.clear();
            for (int i = 0; i < row.length; i++) {
                int peg = nearestPegs[i];
                target.add(row.kinds[peg], row.sizes[peg], row.wets[peg]);
            }
        }

        int unlikeWorths() {
            int unlike = 0;
            for (int i = 0; i < WORTH_WORDS; i++) {
                unlike += Long.bitCount(met[i]);
            }
            return unlike;
        }

        int meaningsMet() {
            int meanings = 0;
            for (int i = 0; i < WORTH_WORDS; i++) {
                for (int bit = 0; bit < 64 && met[i] >>> bit != 0L; bit++) {
                    if ((met[i] >>> bit & 1L) != 0L) {
                        meanings |= meaningBit(64 * i + bit - WORTH_LIMIT);
                    }
                }
            }
            return meanings;
        }

        private int meaningBit(int worth) {
            int told = town.readAs(worth);
            return told == NO_MEANING ? 0 : 1 << told;
        }
    }

    /** The tape, and the reader of the text that it holds. */
    private static final class Tape {
        private static final int END = 0;
        private static final int WORD = 1;
        private static final int NUMBER = 2;
        private static final int SEMICOLON = 3;
        private static final int MINUS = 4;
        private static final int NO_TOKEN = 5;
        private static final int GREATEST = 9999;
        private static final int GREATEST_BELOW_ZERO = 999;

        private final int[] bytes = new int[TAPE_BYTES];
        int length = 0;
        private int start = 0;
        private int end = 0;
        private int sort = END;
        private int told = 0;

        void add(int b) {
            if (length < TAPE_BYTES) {
                bytes[length] = b;
                length++;
            }
        }

        /** Brings all items to a draft: how many, or -1 less the place of a fault. */
        int tell(Town draft) {
            end = 0;
            step();
            for (int items = 1; items <= TAPE_BYTES; items++) {
                boolean stands = false;
                if (isWord("line")) {
                    stands = lineItem(draft);
                } else if (isWord("wind")) {
                    stands = windItem(draft);
                } else if (isWord("meaning")) {
                    stands = meaningItem(draft);
                } else if (isWord("forget")) {
                    stands = forgetItem(draft);
                }
                if (stands && sort == END) {
                    return items;
                }
                if (!stands || sort != SEMICOLON) {
                    return -1 - start;
                }
                step();
            }
            return -1 - start;
        }

        // Each part answers whether it could stand; if not, the token that couldn't is still at hand.

        private boolean lineItem(Town draft) {
            step();
            if (!takeNumber(0, LINES - 1)) {
                return false;
            }
            Row row = draft.rows[told];
            row.clear();
            if (!garment(row)) {
                return false;
            }
            for (int i = 1; i <= PEGS && kindTold() >= 0; i++) {
                if (!garment(row)) {
                    return false;
                }
            }
            return true;
        }

        private boolean garment(Row row) {
            int kind = kindTold();
            if (kind < 0 || row.length >= PEGS) {
                return false;
            }
            step();
            if (!takeNumber(1, LARGEST_SIZE)) {
                return false;
            }
            int size = told;
            int wet = 0;
            if (isWord("wet")) {
                step();
                if (!takeNumber(0, WETTEST)) {
                    return false;
                }
                wet = told;
            }
            row.add(kind, size, wet);
            return true;
        }

        private boolean windItem(Town draft) {
            step();
            if (!takeNumber(0, STRONGEST_WIND)) {
                return false;
            }
            draft.wind = told;
            return true;
        }

        private boolean meaningItem(Town draft) {
            step();
            if (!takeNumber(0, MEANINGS - 1)) {
                return false;
            }
            int meaning = told;
            boolean isBelowZero = sort == MINUS;
            if (isBelowZero) {
                step();
            }
            if (!takeNumber(0, isBelowZero ? GREATEST_BELOW_ZERO : GREATEST)) {
                return false;
            }
            draft.numbers[meaning] = isBelowZero ? -told : told;
            return true;
        }

        private boolean forgetItem(Town draft) {
            step();
            if (!takeNumber(0, MEANINGS - 1)) {
                return false;
            }
            draft.numbers[told] = NO_NUMBER;
            return true;
        }

        private boolean takeNumber(int low, int high) {
            int number = sort == NUMBER ? numberHere() : -1;
            if (!isWithin(number, low, high)) {
                return false;
            }
            told = number;
            step();
            return true;
        }

        private int kindTold() {
            for (int kind = 0; kind < KINDS; kind++) {
                if (isWord(kindName(kind))) {
                    return kind;
                }
            }
            return -1;
        }

        private static String kindName(int kind) {
            switch (kind) {
                case SHEET:
                    return "sheet";
                case STOCKING:
                    return "stocking";
                case RED:
                    return "red";
                case TORN:
                    return "torn";
                case BLACK:
                    return "black";
                default:
                    return "linen";
            }
        }

        private boolean isWord(String word) {
            if (sort != WORD || end - start != word.length()) {
                return false;
            }
            for (int i = 0; i < word.length(); i++) {
                if (bytes[start + i] != word.charAt(i)) {
                    return false;
                }
            }
            return true;
        }

        /** Goes to the next token; at the end its place is how many bytes there are. */
        private void step() {
            start = end;
            while (start < length && bytes[start] == ' ') {
                start++;
            }
            sort = start < length ? sortOf(bytes[start]) : END;
            boolean isLong = sort == WORD || sort == NUMBER;
            end = sort == END ? start : start + 1;
            while (isLong && end < length && sortOf(bytes[end]) == sort) {
                end++;
            }
        }

        /** The number at hand; held just above the greatest, as it is refused then anyway. */
        private int numberHere() {
            int number = 0;
            for (int i = start; i < end; i++) {
                if (number <= GREATEST) {
                    number = 10 * number + bytes[i] - '0';
                }
            }
            return number;
        }

        private static int sortOf(int b) {
            if (b >= 'a' && b <= 'z') {
                return WORD;
            }
            if (b >= '0' && b <= '9') {
                return NUMBER;
            }
            if (b == ';') {
                return SEMICOLON;
            }
            return b == '-' ? MINUS : NO_TOKEN;
        }
    }

    /** A row of numbers of some bits; 0 bits: it is missing. */
    private static final class Sheet {
        final long[] cells = new long[SHEET_NUMBERS];
        int bits = 0;
        int length = 0;

        void begin(int ofBits, int n) {
            bits = ofBits;
            length = ofBits == 0 ? 0 : n;
            Arrays.fill(cells, 0L);
        }

        void put(int i, long v) {
            switch (bits) {
                case 8:
                    cells[i] = (byte) v;
                    break;
                case 16:
                    cells[i] = (short) v;
                    break;
                default:
                    cells[i] = v;
                    break;
            }
        }

        boolean hasRange(int from, int n) {
            return from >= 0 && n >= 0 && n <= length && from <= length - n;
        }
    }
}
