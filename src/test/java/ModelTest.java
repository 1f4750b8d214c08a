import java.util.Random;

/** Long runs of calls from fixed seeds, the program's answers held against PlainHall's. */
final class ModelTest {
    private static final int RUNS = 1500, CALLS = 512;
    private static final String[] BITS = {"end", "change", "gain", "k", "w", "t", "a", "b", "0", "1", "7", "12", "99", "9999", "12345",
        "(", ")", "!", "|", "&", "<", "=", ">", "+", "-", "*", "/", " ", "  ", "c", "kw", "?"};
    private static final int[] EDGES = {Integer.MIN_VALUE, Integer.MAX_VALUE, -1, 0, 1, 2, 9, 10, 16, 17, 90, 91, 100, 101, 255, 256, 900, 901, 999,
        1000, 5000, 5001, 9999, 10000, 99999, 100000, 100001, 1000000, 1000001, VoucherHall.NONE, 65536};

    private final Random random;
    private final VoucherHall hall = new VoucherHall();
    private final PlainHall plain = new PlainHall();
    private final int seed;
    private final int theme;

    private ModelTest(int seed) {
        this.seed = seed;
        this.random = new Random(seed);
        this.theme = seed % 6;
    }

    public static void main(String[] args) {
        for (int seed = 1; seed <= RUNS; seed++) {
            new ModelTest(seed).run();
        }
        Due.end("ModelTest");
    }

    private void run() {
        for (int i = 0; i < 3; i++) {
            ask(2, 0, 0, 0, 0, 0, 0);
            ask(3, i, 0, 0, 0, 0, 0);
        }
        for (int i = 6; i < CALLS - 20; i++) {
            if (random.nextInt(40) == 0) {
                i += feedLaw();
            }
            call(themed());
        }
    }

    /* Most calls of a run come from one part of the face, so that its state grows deep. */
    private int themed() {
        int[][] parts = {{4, 21}, {2, 18}, {4, 18}, {22, 31}, {32, 36}, {37, 40}};
        if (random.nextInt(5) == 0) {
            return 2 + random.nextInt(39);
        }
        int[] part = parts[theme];
        return part[0] + random.nextInt(part[1] - part[0] + 1);
    }

    private int upTo(int most) {
        return random.nextInt(most + 1);
    }

    private int often(int usual) {
        int r = random.nextInt(60);
        return r == 0 ? EDGES[random.nextInt(EDGES.length)] : r == 1 ? usual + 1 : r == 2 ? usual - 1 : usual;
    }

    private int one(int what) {
        int many = hall.count(what);
        return often(many == 0 ? 0 : random.nextInt(many));
    }

    private int day() {
        int today = hall.count(9);
        return random.nextInt(8) == 0 ? upTo(900) : Math.max(0, Math.min(900, today + 4 - random.nextInt(16)));
    }

    private int about() {
        return often(Math.max(0, hall.count(9) - random.nextInt(8)));
    }

    private int sum() {
        int r = random.nextInt(4);
        return often(r == 0 ? 1 + upTo(5) : r == 1 ? 1 + upTo(60) : r == 2 ? 1 + upTo(2000) : 100000 - upTo(200));
    }

    private void call(int number) {
        switch (number) {
            case 3: ask(3, one(0), 0, 0, 0, 0, 0); break;
            case 4: ask(4, often(1 + upTo(random.nextInt(6) == 0 ? 60 : 2)), 0, 0, 0, 0, 0); break;
            case 5: begin(); break;
            case 6: ask(6, one(2), often(upTo(3)), 0, 0, 0, 0); break;
            case 7: case 10: ask(number, one(2), one(1), sum(), about(), 0, 0); break;
            case 8: ask(8, one(2), sum(), about(), 0, 0, 0); break;
            case 9: ask(9, one(2), one(2), sum(), about(), 0, 0); break;
            case 11: ask(11, one(2), random.nextInt(3) == 0 ? VoucherHall.NONE : one(2), random.nextInt(3) == 0 ? about() : -1, 0, 0, 0); break;
            case 12: ask(12, random.nextInt(2) == 0 ? one(3) : -1, 0, 0, 0, 0, 0); break;
            case 13: ask(13, one(3), often(upTo(6)), 0, 0, 0, 0); break;
            case 14: ask(14, one(2), often(day()), often(day()), often(upTo(4)), 0, 0); break;
            case 15: ask(15, often(day()), often(day()), 0, 0, 0, 0); break;
            case 16: ask(16, one(0), one(0), often(day()), often(day()), 0, 0); break;
            case 17: ask(17, one(0), often(day()), often(day()), 0, 0, 0); break;
            case 18: ask(18, one(2), often(upTo(random.nextBoolean() ? 300 : 1000000)), 0, 0, 0, 0); break;
            case 19: ask(19, random.nextInt(), random.nextInt(), random.nextInt(), 0, 0, 0); break;
            case 20: ask(20, often(upTo(Math.max(1, hall.count(11)))), 0, 0, 0, 0, 0); break;
            case 21: feedLaw(); break;
            default: callLater(number);
        }
    }

    private void callLater(int number) {
        switch (number) {
            case 22: ask(22, often(1 + upTo(random.nextBoolean() ? 20 : 9998)), often(upTo(7)), 0, 0, 0, 0); break;
            case 23: ask(23, often(upTo(7)), often(upTo(1)), 0, 0, 0, 0); break;
            case 24: ask(random.nextInt(4) == 0 ? 24 : 40, 5, 0, 0, 0, 0, 0); break;
            case 25: promotion(); break;
            case 26: ask(26, one(6), one(6), often(random.nextInt(4) == 0 ? 0 : 1), 0, 0, 0); break;
            case 27: ask(27, often(1 + upTo(random.nextBoolean() ? 70 : 4999)), 0, 0, 0, 0, 0); break;
            case 28: ask(28, often(1 + upTo(4999)), often(upTo(4)), 0, 0, 0, 0); break;
            case 29: row(); break;
            case 30: tellMix(); break;
            case 32: exchange(); break;
            case 33: ask(33, often(upTo(5)), often(upTo(4)), 0, 0, 0, 0); break;
            case 34: ask(34, often(random.nextInt(3) == 0 ? upTo(9999) : code()), one(1), 0, 0, 0, 0); break;
            case 35: ask(35, one(1), 0, 0, 0, 0, 0); break;
            case 36: ask(36, often(upTo(9)), 0, 0, 0, 0, 0); break;
            case 37: ask(37, often(upTo(1)), often(upTo(16)), 0, 0, 0, 0); break;
            case 38: ask(38, often(upTo(1)), often(upTo(12)), random.nextInt() >> random.nextInt(32), 0, 0, 0); break;
            case 39: ask(39, often(upTo(1)), often(upTo(6)), often(upTo(1)), often(upTo(6)), often(upTo(8)), 0); break;
            case 40: ask(40, often(upTo(11)), 0, 0, 0, 0, 0); break;
            default: ask(number, 0, 0, 0, 0, 0, 0);
        }
    }

    private int code() {
        return 1000 * upTo(1) + 100 * upTo(2) + 10 * upTo(1) + upTo(2);
    }

    private void begin() {
        int term = random.nextBoolean() ? 1 + upTo(8) : 1 + upTo(899);
        int worth = random.nextInt(3) == 0 ? 100000 - upTo(100) : upTo(3000);
        ask(5, often(10 * upTo(3) + upTo(2)), one(0), often(code()), often(term), often(worth), about());
    }

    private void promotion() {
        switch (upTo(3)) {
            case 0: ask(25, 0, often(1 + upTo(89)), often(upTo(255)), 0, 0, 0); break;
            case 1: ask(25, 1, often(1 + upTo(random.nextBoolean() ? 20 : 9998)), often(upTo(random.nextBoolean() ? 50 : 40000)), 0, 0, 0); break;
            case 2: ask(25, 2, often(2 + upTo(2)), often(upTo(255)), 0, 0, 0); break;
            default: ask(25, often(3), often(1 + upTo(random.nextBoolean() ? 60 : 40000)), often(1 + upTo(7)), 0, 0, 0);
        }
    }

    private void row() {
        int row = 0;
        for (int i = upTo(4); i > 0; i--) {
            row = row * 10 + upTo(6);
        }
        ask(29, often(row), 0, 0, 0, 0, 0);
    }

    /* Rows that are right, or nearly so, are told and looked at. */
    private void tellMix() {
        int row = 0;
        for (int i = 0; i < 6; i++) {
            int promotion = hall.mixed(5000, i);
            if (promotion >= 0 && random.nextInt(12) != 0) {
                row = row * 10 + promotion + 1;
                ask(30, often(promotion), 0, 0, 0, 0, 0);
                if (random.nextInt(12) != 0) {
                    ask(30, often(hall.costs(row)), 0, 0, 0, 0, 0);
                }
            }
        }
        ask(random.nextInt(4) == 0 ? 30 : 31, 0, 0, 0, 0, 0, 0);
    }

    private void exchange() {
        int p = random.nextBoolean() ? 1 + upTo(998) : 990 + upTo(9);
        int q = Math.min(999, p + upTo(3));
        int forms = theme == 4 && seed % 12 == 4 ? 2 : 5;
        ask(32, often(upTo(forms)), often(upTo(forms)), often(p), often(q), 0, 0);
    }

    /** Asks for a law; how many calls that took. */
    private int feedLaw() {
        StringBuilder text = new StringBuilder();
        String[] heads = {"end", "change", "gain"};
        for (String head : heads) {
            text.append(head).append(' ').append(expression(upTo(4))).append(random.nextInt(4) == 0 ? "  " : " ");
        }
        for (int i = random.nextInt(3); i > 1; i--) {
            int at = random.nextInt(text.length());
            String bit = random.nextInt(9) == 0 ? String.valueOf((char) random.nextInt(256)) : BITS[random.nextInt(BITS.length)];
            text.replace(at, Math.min(text.length(), at + upTo(2)), bit);
        }
        while (hall.count(11) > 0) {
            ask(20, 0, 0, 0, 0, 0, 0);
        }
        text.setLength(Math.min(96, random.nextInt(12) == 0 ? random.nextInt(text.length()) : text.length()));
        int length = text.length();
        while (text.length() % 12 != 0) {
            text.append(' ');
        }
        for (int at = 0; at < text.length(); at += 12) {
            ask(19, four(text, at), four(text, at + 4), four(text, at + 8), 0, 0, 0);
        }
        ask(20, length, 0, 0, 0, 0, 0);
        ask(21, often(upTo(2)), 0, 0, 0, 0, 0);
        return text.length() / 12 + 3;
    }

    private String expression(int deep) {
        if (deep == 0) {
            String[] leaves = {"k", "w", "t", "a", "b", "0", "1", "5", "30", "900", "9999"};
            return leaves[random.nextInt(leaves.length)];
        }
        switch (random.nextInt(5)) {
            case 0: return "(" + expression(deep - 1) + ")";
            case 1: return "!" + expression(0);
            default:
                String work = String.valueOf("|&<=>+-*/".charAt(random.nextInt(9)));
                return expression(deep - 1) + work + expression(random.nextInt(deep));
        }
    }

    private static int four(StringBuilder text, int at) {
        return text.charAt(at) << 24 | text.charAt(at + 1) << 16 | text.charAt(at + 2) << 8 | text.charAt(at + 3);
    }

    private void ask(int number, int a, int b, int c, int d, int e, int f) {
        int want = plain.call(number, a, b, c, d, e, f);
        int got = Face.call(hall, number, a, b, c, d, e, f);
        if (got != want) {
            Due.due("seed " + seed + ", promise " + number + " (" + a + ", " + b + ", " + c + ", " + d + ", " + e + ", " + f + ")", got, want);
        } else {
            Due.due("", 0, 0);
        }
    }
}
