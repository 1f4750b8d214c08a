/** The edges that the document names of exchanges, guesses, sheets and of a new object. */
final class RestEdgesTest {
    private static final int BAD = VoucherHall.BAD, NO = VoucherHall.NO, NONE = VoucherHall.NONE;
    private static final int NOTHING = VoucherHall.NOTHING, INDEX = VoucherHall.INDEX;

    private RestEdgesTest() {
    }

    public static void main(String[] args) {
        newObject();
        comesBackMore();
        exactly();
        greatest();
        sixAtMost();
        formsUnlike();
        fewestThenFirst();
        figures();
        liveCodes();
        moreThanTries();
        sevenDays();
        barredOnes();
        lastGuess();
        places();
        shorts();
        copiedAsTheyWere();
        Due.end("RestEdgesTest");
    }

    private static void newObject() {
        Run run = new Run();
        for (int what = 0; what <= 11; what++) {
            run.due("count " + what, 0);
        }
        run.due("shop 0", BAD).due("mark 0 0 0", NOTHING).due("mark 1 0 0", NOTHING).due("tries 3", 3).due("hole 0 0", NO).due("idle 900 900", 0).due("check", 0);
        run.due("count 12", BAD).due("count -1", BAD).due("firm", 0).due("shop 0", 0).due("barred 0", 0).due("owes 0 0 0 0", 0).due("gain 0 0 0", 0);
    }

    private static void holeIs(Run run, int form, int... round) {
        for (int i = 0; i < round.length; i++) {
            run.due("hole " + form + " " + i, round[i]);
        }
        run.due("hole " + form + " " + round.length, round.length == 0 ? NO : NONE).due("hole " + form + " MAX", round.length == 0 ? NO : NONE);
    }

    /** A HOLE, if what comes back is more: just as much is none. */
    private static void comesBackMore() {
        int[][] due = {{1, 1, 1, 1, 0}, {999, 998, 998, 999, 0}, {999, 998, 998, 998, 1}, {500, 999, 999, 500, 0}, {500, 999, 2, 1, 1}, {1, 2, 2, 1, 0}, {1, 999, 999, 1, 0},
            {998, 999, 999, 997, 1}, {997, 998, 999, 998, 0}};
        for (int[] d : due) {
            Run run = new Run("exchange 0 1 " + d[0] + " " + d[1], "exchange 1 0 " + d[2] + " " + d[3]);
            holeIs(run, 0, d[4] == 1 ? new int[] {0, 1} : new int[0]);
            holeIs(run, 1, d[4] == 1 ? new int[] {1, 0} : new int[0]);
            holeIs(run, 2);
        }
    }

    /* 995 * 869 * 859, squared, is 1 more than 991 * 981 * 764 * 982 * 949 * 797: no double tells them apart. */
    private static void exactly() {
        int[] more = {995, 869, 859, 995, 869, 859};
        int[] less = {991, 981, 764, 982, 949, 797};
        Run hole = new Run();
        Run none = new Run();
        Run same = new Run();
        for (int i = 0; i < 6; i++) {
            String forms = "exchange " + i + " " + (i + 1) % 6 + " ";
            hole.does(forms + more[i] + " " + less[i]);
            none.does(forms + less[i] + " " + more[i]);
            same.does(forms + less[i] + " " + less[(i + 1) % 6]);
        }
        for (int form = 0; form < 6; form++) {
            holeIs(hole, form, form, (form + 1) % 6, (form + 2) % 6, (form + 3) % 6, (form + 4) % 6, (form + 5) % 6);
            holeIs(none, form);
            holeIs(same, form);
        }
    }

    private static void greatest() {
        Run run = new Run();
        Run least = new Run();
        for (int i = 0; i < 6; i++) {
            run.does("exchange " + i + " " + (i + 1) % 6 + " 999 1");
            least.does("exchange " + i + " " + (i + 1) % 6 + " 1 999");
        }
        holeIs(run, 0, 0, 1, 2, 3, 4, 5);
        holeIs(run, 5, 5, 0, 1, 2, 3, 4);
        holeIs(least, 0);
    }

    /** A ROUND of six is one, and goes through all FORMS; every length from two on. */
    private static void sixAtMost() {
        for (int length = 2; length <= 6; length++) {
            Run run = new Run();
            int[] round = new int[length];
            for (int i = 0; i < length; i++) {
                run.does("exchange " + i + " " + (i + 1) % length + " " + (i == 0 ? 999 : 1) + " " + (i == 0 ? 998 : 1));
                round[i] = i;
            }
            holeIs(run, 0, round);
            for (int form = length; form < 6; form++) {
                holeIs(run, form);
            }
        }
    }

    /** All FORMS between unlike: no side way that comes back to where it was. */
    private static void formsUnlike() {
        Run run = new Run("exchange 0 1 1 1", "exchange 1 0 1 1", "exchange 1 2 5 1", "exchange 2 1 1 1");
        holeIs(run, 0);
        holeIs(run, 1, 2, 3);
        holeIs(run, 2, 3, 2);
        run.does("exchange 2 0 1 5");
        holeIs(run, 0);
        run.does("exchange 2 0 1 4");
        holeIs(run, 0, 0, 2, 5);
        holeIs(new Run("exchange 0 1 9 1", "exchange 0 1 9 1"), 0);
    }

    private static void fewestThenFirst() {
        Run run = new Run("exchange 0 1 1 1", "exchange 1 2 1 1", "exchange 2 0 999 1");
        holeIs(run, 0, 0, 1, 2);
        run.does("exchange 0 2 1 998");
        holeIs(run, 0, 3, 2);
        run.does("exchange 2 0 999 1", "exchange 0 2 1 1");
        holeIs(run, 0, 3, 2);
        holeIs(run, 2, 2, 3);
        holeIs(run, 1, 1, 2, 0);
    }

    /** NEAR: just one of four figures differs; the highest and the lowest CODE. */
    private static void figures() {
        int[][] due = {{0, 0, 2}, {0, 1, 1}, {0, 10, 1}, {0, 100, 1}, {0, 1000, 1}, {0, 9000, 1}, {0, 11, 0}, {0, 1001, 0}, {0, 9999, 0}, {9999, 9999, 2}, {9999, 9998, 1},
            {9999, 8999, 1}, {9999, 9989, 1}, {9999, 9899, 1}, {9999, 9988, 0}, {9999, 999, 1}, {9999, 99, 0}, {9999, 0, 0}, {10, 1, 0}, {1234, 1243, 0}, {1999, 2000, 0}, {5, 5000, 0}};
        for (int[] d : due) {
            new Run("firm", "shop 0", "begin 0 0 " + d[0] + " 1 0 0").due("guess " + d[1] + " 0", d[2]);
            new Run("firm", "shop 0", "begin 0 0 " + d[1] + " 1 0 0").due("guess " + d[0] + " 0", d[2]);
        }
        new Run("firm", "shop 0").due("guess 0 0", 0).due("guess 9999 0", 0).due("count 8", 2);
    }

    /** Of a VOUCHER that is LIVE, as KNOWN TODAY: from its BEGIN on, ENDED or not, until it is LOST or WITHDRAWN. */
    private static void liveCodes() {
        Run run = new Run("firm", "shop 0", "tries 9", "guess 1234 0", "days 1", "begin 0 0 1234 1 0 0", "guess 1234 0").due("guess 1234 0", 2).due("guess 1334 0", 1);
        run.does("days 2").due("guess 1234 0", 2).does("lose 0 NONE 3").due("guess 1234 0", 0).due("guess 1334 0", 0).does("withdraw 1").due("guess 1234 0", 2);
        run.does("withdraw 0").due("guess 1234 0", 0).due("guess 1334 0", 0).does("begin 0 0 1234 1 0 3").due("guess 1234 0", 2);
        Run two = new Run("firm", "shop 0", "begin 0 0 1234 1 0 0", "begin 0 0 1235 1 0 0").due("guess 1234 0", 2).due("guess 1235 0", 2).due("guess 1236 0", 1);
        two.does("lose 1 0 0").due("guess 1235 0", 1).due("guess 1236 0", 1).does("lose 0 NONE 0").due("guess 1235 0", 0);
    }

    /** More than TRIES: so many WILD ones do not bar yet. */
    private static void moreThanTries() {
        for (int tries = 0; tries <= 9; tries++) {
            Run run = new Run("firm", "shop 0", "shop 0", "begin 0 0 1234 1 0 0", "tries " + tries).times(tries, "guess 9999 0");
            run.due("barred 0", 0).due("guess 1234 0", 2).due("guess 1235 0", 1).due("barred 0", 0);
            run.due("guess 9999 0", 0).due("barred 0", 1).due("barred 1", 0).due("guess 1234 0", NO).due("guess 1234 1", 2).due("guess 1235 0", 1).due("guess 9999 0", 0);
            if (tries + 2 <= 9) {
                run.due("tries 9", tries).due("barred 0", 0).due("guess 1234 0", 2);
            }
        }
        Run last = new Run("firm").times(10, "shop 0").does("tries 1", "guess 1 9", "guess 1 8", "guess 1 0", "guess 1 9");
        for (int shop = 0; shop <= 9; shop++) {
            last.due("barred " + shop, shop == 9 ? 1 : 0);
        }
        Run three = new Run("firm", "shop 0").times(3, "guess 1 0").due("barred 0", 0).does("guess 1 0").due("barred 0", 1);
        three.due("tries 4", 3).due("barred 0", 0).due("tries 3", 4).due("barred 0", 1).due("tries 10", BAD).due("tries -1", BAD).due("barred 0", 1);
    }

    /** The 7 DAYS up to TODAY: the WILD one's DAY and six more. */
    private static void sevenDays() {
        for (int start = 0; start <= 100; start += 50) {
            Run run = new Run("firm", "shop 0", "tries 0");
            if (start > 0) {
                run.does("days " + start);
            }
            run.does("guess 1 0");
            for (int day = 1; day <= 9; day++) {
                run.due("barred 0", day <= 7 ? 1 : 0).does("days 1");
            }
        }
        Run run = new Run("firm", "shop 0", "tries 1", "guess 1 0", "days 6").due("barred 0", 0).does("guess 1 0").due("barred 0", 1).does("days 1").due("barred 0", 0);
        run.does("guess 1 0").due("barred 0", 1).does("days 5").due("barred 0", 1).does("days 1").due("barred 0", 0);
        Run last = new Run("firm", "shop 0", "tries 0").times(8, "days 100").does("days 94", "guess 1 0", "days 6").due("barred 0", 1).due("count 9", 900);
        last.does("begin 0 0 1 1 0 900").due("guess 1 0", NO);
    }

    /** A BARRED shop finds none RIGHT; that one counts as told, not as WILD. */
    private static void barredOnes() {
        Run run = new Run("firm", "shop 0", "begin 0 0 1234 900 0 0", "tries 1", "guess 1 0", "days 6", "guess 1 0").due("barred 0", 1);
        run.due("guess 1234 0", NO).due("guess 1234 0", NO).due("count 8", 4).does("days 1").due("barred 0", 0).due("guess 1234 0", 2).due("count 8", 5);
    }

    private static void lastGuess() {
        Run run = new Run("firm", "shop 0", "begin 0 0 1234 900 0 0");
        for (int i = 1; i <= 59; i++) {
            run.due("guess 1234 0", 2);
        }
        run.due("guess 1235 0", 1).due("count 8", 60).refused("guess 1234 0", VoucherHall.FULL).refused("guess 1 0", VoucherHall.FULL).due("barred 0", 0);
        run.does("days 100").refused("guess 1234 0", VoucherHall.FULL).refused("guess 1234 1", BAD);
    }

    /** 0 to 16 places, all 0 each time. */
    private static void places() {
        for (int n = 0; n <= 16; n++) {
            Run run = new Run("sheet 0 16", "sheet 1 16");
            for (int place = 0; place < 16; place++) {
                run.does("mark 0 " + place + " 5", "mark 1 " + place + " 6");
            }
            run.due("sheet 0 " + n, n);
            for (int place = -1; place <= 17; place++) {
                run.due("mark 0 " + place + " 9", place >= 0 && place < n ? 0 : INDEX);
            }
            run.due("sheet 0 16", 16);
            for (int place = 0; place < 16; place++) {
                run.due("mark 0 " + place + " 1", 0).due("mark 1 " + place + " 1", 6);
            }
        }
        new Run("sheet 0 0").due("mark 0 0 1", INDEX).due("items 0 0", 0).due("copy 0 0 0 0 0", 0).due("copy 0 0 0 0 1", INDEX).due("mark 1 0 1", NOTHING);
    }

    private static void shorts() {
        int[] all = {0, 1, -1, 32767, 32768, -32768, -32769, 65535, 65536, 98304, Integer.MAX_VALUE, Integer.MIN_VALUE};
        Run run = new Run("sheet 0 1", "sheet 1 1");
        for (int v : all) {
            run.does("mark 0 0 0").due("mark 0 0 " + v, 0).due("copy 0 0 1 0 1", 1).due("mark 1 0 0", (short) v).due("mark 0 0 7", (short) v).due("mark 0 0 0", 7);
        }
    }

    /** Over one another in the same SHEET, either way, every place and number of places. */
    private static void copiedAsTheyWere() {
        for (int place = 0; place <= 5; place++) {
            for (int at = 0; at <= 5; at++) {
                for (int many = 0; many <= 6; many++) {
                    copied(0, place, at, many);
                    copied(1, place, at, many);
                }
            }
        }
    }

    private static void copied(int to, int place, int at, int many) {
        Run run = new Run("sheet 0 5", "sheet 1 5");
        int[] due = new int[5];
        for (int i = 0; i < 5; i++) {
            run.does("mark 0 " + i + " " + (i + 1), "mark 1 " + i + " " + (i + 11));
            due[i] = to == 0 ? i + 1 : i + 11;
        }
        boolean right = place + many <= 5 && at + many <= 5;
        run.due("copy 0 " + place + " " + to + " " + at + " " + many, right ? many : INDEX);
        for (int i = 0; right && i < many; i++) {
            due[at + i] = place + i + 1;
        }
        for (int i = 0; i < 5; i++) {
            run.due("mark " + to + " " + i + " 0", due[i]);
        }
    }
}
