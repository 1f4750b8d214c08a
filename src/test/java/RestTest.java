/** Promises 32 to 40: exchanges, guesses, sheets, counts. */
final class RestTest {
    private static final int BAD = VoucherHall.BAD, NO = VoucherHall.NO, FULL = VoucherHall.FULL, NONE = VoucherHall.NONE;
    private static final int NOTHING = VoucherHall.NOTHING, INDEX = VoucherHall.INDEX, SIZE = VoucherHall.SIZE;

    private RestTest() {
    }

    public static void main(String[] args) {
        exchange();
        hole();
        longHoles();
        firstHole();
        guess();
        barred();
        fullGuesses();
        tries();
        sheet();
        mark();
        copy();
        count();
        Due.end("RestTest");
    }

    private static void exchange() {
        VoucherHall x = new VoucherHall();
        int[][] bad = {{-1, 0, 1, 1}, {6, 0, 1, 1}, {0, -1, 1, 1}, {0, 6, 1, 1}, {2, 2, 1, 1}, {0, 1, 0, 1}, {0, 1, 1000, 1}, {0, 1, 1, 0}, {0, 1, 1, 1000}};
        for (int[] b : bad) {
            Due.due("32: BAD " + java.util.Arrays.toString(b), x.exchange(b[0], b[1], b[2], b[3]), BAD);
        }
        for (int i = 0; i < 16; i++) {
            Due.due("32: exchange", x.exchange(i % 6, (i + 1) % 6, i == 0 ? 999 : 1, i == 1 ? 999 : 1), i);
        }
        Due.due("32: FULL", x.exchange(0, 1, 1, 1), FULL);
        Due.due("32: BAD ahead of FULL", x.exchange(0, 0, 1, 1), BAD);
        Due.due("32: count", x.count(7), 16);
    }

    private static void holeIs(VoucherHall x, int form, int... round) {
        for (int i = 0; i < round.length; i++) {
            Due.due("33: hole(" + form + ", " + i + ")", x.hole(form, i), round[i]);
        }
        Due.due("33: behind its end", x.hole(form, round.length), round.length == 0 ? NO : NONE);
    }

    private static void hole() {
        VoucherHall x = new VoucherHall();
        Due.due("33: form", x.hole(-1, 0), BAD);
        Due.due("33: form", x.hole(6, 0), BAD);
        Due.due("33: i", x.hole(0, -1), BAD);
        Due.due("33: NO", x.hole(0, 9), NO);
        x.exchange(0, 1, 2, 1);
        holeIs(x, 0);
        x.exchange(1, 0, 1, 2);
        holeIs(x, 0);
        x.exchange(1, 0, 500, 999);
        holeIs(x, 0, 0, 2);
        holeIs(x, 1, 2, 0);
        holeIs(x, 2);
        Due.due("33: the greatest", x.hole(0, Integer.MAX_VALUE), NONE);
    }

    private static void longHoles() {
        VoucherHall x = new VoucherHall();
        for (int i = 0; i < 5; i++) {
            x.exchange(i, i + 1, 999, 998);
        }
        x.exchange(5, 0, 993, 998);
        holeIs(x, 0);
        x.exchange(5, 0, 994, 998);
        holeIs(x, 0, 0, 1, 2, 3, 4, 6);
        holeIs(x, 3, 3, 4, 6, 0, 1, 2);
        VoucherHall y = new VoucherHall();
        for (int i = 0; i < 6; i++) {
            y.exchange(i, (i + 1) % 6, 999, 999);
        }
        holeIs(y, 0);
        y.exchange(2, 3, 998, 997);
        holeIs(y, 4, 4, 5, 0, 1, 6, 3);
        VoucherHall z = new VoucherHall();
        z.exchange(1, 2, 3, 1);
        z.exchange(2, 1, 1, 1);
        z.exchange(0, 1, 1, 1);
        z.exchange(2, 0, 1, 2);
        holeIs(z, 0, 2, 0, 3);
        holeIs(z, 1, 0, 1);
    }

    private static void firstHole() {
        VoucherHall x = new VoucherHall();
        x.exchange(0, 1, 1, 1);
        x.exchange(1, 2, 1, 1);
        x.exchange(2, 0, 9, 1);
        x.exchange(0, 3, 1, 1);
        x.exchange(3, 0, 3, 2);
        holeIs(x, 0, 3, 4);
        x.exchange(1, 0, 2, 1);
        holeIs(x, 0, 0, 5);
        holeIs(x, 2, 2, 0, 1);
        x.exchange(1, 0, 900, 1);
        holeIs(x, 0, 0, 5);
        VoucherHall y = new VoucherHall();
        y.exchange(1, 0, 1, 1);
        y.exchange(0, 1, 1, 1);
        y.exchange(1, 0, 3, 2);
        y.exchange(0, 1, 2, 1);
        holeIs(y, 0, 1, 2);
        holeIs(y, 1, 0, 3);
    }

    private static void guess() {
        VoucherHall x = Hall.withFirms(1);
        Due.due("34: code", x.guess(-1, 0), BAD);
        Due.due("34: code", x.guess(10000, 0), BAD);
        Due.due("34: shop", x.guess(0, 1), BAD);
        Due.due("34: shop", x.guess(0, -1), BAD);
        Due.due("34: not counted", x.count(8), 0);
        Due.due("34: no voucher", x.guess(0, 0), 0);
        x.begin(0, 0, 9, 1, 0, 0);
        x.begin(0, 0, 5005, 1, 0, 0);
        int[][] due = {{9, 2}, {0, 1}, {19, 1}, {109, 1}, {1009, 1}, {9009, 1}, {10, 0}, {90, 0}, {5005, 2}, {5015, 1}, {6005, 1}, {5016, 0}};
        x.tries(9);
        for (int[] d : due) {
            Due.due("34: guess " + d[0], x.guess(d[0], 0), d[1]);
        }
        x.days(2);
        Due.due("34: an ended one is live", x.guess(9, 0), 2);
        x.begin(0, 0, 8, 1, 0, 2);
        Due.due("34: RIGHT ahead of NEAR", x.guess(8, 0), 2);
        x.lose(0, NONE, 1);
        Due.due("34: NEAR by the one that is live", x.guess(9, 0), 1);
        x.withdraw(2);
        Due.due("34: withdrawn", x.guess(8, 0), 0);
        Due.due("34: count", x.count(8), 17);
    }

    private static void barred() {
        VoucherHall x = Hall.withFirms(2);
        x.begin(0, 0, 1111, 9, 0, 0);
        Due.due("35: shop", x.barred(2), BAD);
        Due.due("35: shop", x.barred(-1), BAD);
        x.days(10);
        x.guess(9999, 0);
        x.guess(1112, 0);
        x.guess(9999, 1);
        x.days(3);
        x.guess(9999, 0);
        x.guess(9999, 0);
        Due.due("35: 3 are not more than 3", x.barred(0), 0);
        Due.due("34: not barred", x.guess(1111, 0), 2);
        Due.due("34: the fourth", x.guess(9999, 0), 0);
        Due.due("35: 4", x.barred(0), 1);
        Due.due("35: the other shop", x.barred(1), 0);
        Due.due("34: barred", x.guess(1111, 0), NO);
        Due.due("34: NEAR is told", x.guess(1112, 0), 1);
        Due.due("34: the other shop", x.guess(1111, 1), 2);
        Due.due("34: NO is counted", x.count(8), 10);
        x.days(3);
        Due.due("35: the seventh day", x.barred(0), 1);
        x.days(1);
        Due.due("35: the eighth day", x.barred(0), 0);
        Due.due("34: NO was not WILD", x.guess(1111, 0), 2);
        x.tries(2);
        Due.due("35: by TRIES as they are", x.barred(0), 1);
        x.days(100);
        Due.due("35: long behind", x.barred(0), 0);
        x.tries(0);
        Due.due("35: 0", x.barred(0), 0);
        x.guess(9999, 0);
        Due.due("35: 1", x.barred(0), 1);
    }

    private static void fullGuesses() {
        VoucherHall x = Hall.withFirms(1);
        x.begin(0, 0, 1111, 9, 0, 0);
        for (int i = 1; i <= 60; i++) {
            Due.due("34: guess", x.guess(9999, 0), 0);
            Due.due("34: count", x.count(8), i);
        }
        Due.due("34: FULL ahead of NO", x.guess(1111, 0), FULL);
        Due.due("34: BAD ahead of FULL", x.guess(10000, 0), BAD);
        Due.due("34: count", x.count(8), 60);
        Due.due("35: barred", x.barred(0), 1);
    }

    private static void tries() {
        VoucherHall x = new VoucherHall();
        Due.due("36: at first", x.tries(9), 3);
        Due.due("36: 10", x.tries(10), BAD);
        Due.due("36: -1", x.tries(-1), BAD);
        Due.due("36: stays", x.tries(0), 9);
        Due.due("36: was", x.tries(0), 0);
    }

    private static void sheet() {
        VoucherHall x = new VoucherHall();
        Due.due("37: sheet", x.sheet(2, 1), BAD);
        Due.due("37: sheet", x.sheet(-1, 1), BAD);
        Due.due("37: 17", x.sheet(0, 17), BAD);
        Due.due("37: -1", x.sheet(0, -1), SIZE);
        Due.due("37: least", x.sheet(1, Integer.MIN_VALUE), SIZE);
        Due.due("37: BAD ahead of SIZE", x.sheet(2, -1), BAD);
        Due.due("37: is missing yet", x.mark(0, 0, 1), NOTHING);
        Due.due("37: 0", x.sheet(0, 0), 0);
        Due.due("37: not missing", x.mark(0, 0, 1), INDEX);
        Due.due("37: 16", x.sheet(0, 16), 16);
        for (int i = 0; i < 16; i++) {
            Due.due("37: all 0", x.mark(0, i, i + 1), 0);
        }
        Due.due("37: anew", x.sheet(0, 3), 3);
        Due.due("37: places", x.mark(0, 3, 1), INDEX);
        Due.due("37: all 0", x.mark(0, 2, 1), 0);
        Due.due("37: anew", x.sheet(0, 16), 16);
        Due.due("37: all 0", x.mark(0, 2, 1), 0);
        Due.due("37: all 0", x.mark(0, 15, 1), 0);
        Due.due("37: refused", x.sheet(0, -1), SIZE);
        Due.due("37: stays", x.mark(0, 15, 1), 1);
        Due.due("37: the other one", x.mark(1, 0, 1), NOTHING);
    }

    private static void mark() {
        VoucherHall x = new VoucherHall();
        Due.due("38: BAD ahead of NOTHING", x.mark(2, -1, 0), BAD);
        Due.due("38: sheet", x.mark(-1, 0, 0), BAD);
        Due.due("38: NOTHING ahead of INDEX", x.mark(1, -1, 0), NOTHING);
        x.sheet(1, 2);
        Due.due("38: place", x.mark(1, -1, 0), INDEX);
        Due.due("38: place", x.mark(1, 2, 0), INDEX);
        Due.due("38: least", x.mark(1, Integer.MIN_VALUE, 0), INDEX);
        int[] marks = {32767, 32768, -32769, 65535, 65536, Integer.MIN_VALUE, Integer.MAX_VALUE, 70000};
        int was = 0;
        for (int v : marks) {
            Due.due("38: was", x.mark(1, 1, v), was);
            was = (short) v;
        }
        Due.due("38: as a short", x.mark(1, 1, 0), 4464);
        Due.due("38: the place ahead", x.mark(1, 0, 0), 0);
    }

    private static void copy() {
        VoucherHall x = new VoucherHall();
        Due.due("39: from", x.copy(2, 0, 0, 0, 0), BAD);
        Due.due("39: from", x.copy(-1, 0, 0, 0, 0), BAD);
        Due.due("39: to", x.copy(0, 0, 2, 0, 0), BAD);
        Due.due("39: to", x.copy(0, 0, -1, 0, 0), BAD);
        Due.due("39: missing", x.copy(0, 0, 0, 0, 0), NOTHING);
        x.sheet(0, 6);
        Due.due("39: missing", x.copy(0, 0, 1, 0, 0), NOTHING);
        Due.due("39: missing", x.copy(1, -1, 0, 0, -1), NOTHING);
        x.sheet(1, 3);
        int[][] none = {{-1, 0, 0}, {0, -1, 0}, {7, 0, 0}, {0, 4, 0}, {0, 0, 4}, {4, 0, 3}, {0, 1, 3}, {0, 0, -1}, {6, 0, 1},
            {1, 0, Integer.MAX_VALUE}, {Integer.MAX_VALUE, 0, 1}, {0, Integer.MAX_VALUE, Integer.MAX_VALUE}, {0, 0, Integer.MIN_VALUE}};
        for (int[] n : none) {
            Due.due("39: INDEX " + java.util.Arrays.toString(n), x.copy(0, n[0], 1, n[1], n[2]), INDEX);
        }
        Due.due("39: none behind the ends", x.copy(0, 6, 1, 3, 0), 0);
        for (int i = 0; i < 6; i++) {
            x.mark(0, i, i + 1);
        }
        Due.due("39: to the other one", x.copy(0, 3, 1, 0, 3), 3);
        places(x, 1, 4, 5, 6);
        Due.due("39: up, the same one", x.copy(0, 0, 0, 2, 4), 4);
        places(x, 0, 1, 2, 1, 2, 3, 4);
        for (int i = 0; i < 6; i++) {
            x.mark(0, i, i + 1);
        }
        Due.due("39: down, the same one", x.copy(0, 2, 0, 0, 4), 4);
        places(x, 0, 3, 4, 5, 6, 5, 6);
    }

    private static void places(VoucherHall x, int sheet, int... want) {
        for (int i = 0; i < want.length; i++) {
            Due.due("39: place " + i, x.mark(sheet, i, want[i]), want[i]);
        }
    }

    private static void count() {
        VoucherHall x = Hall.withFirms(2);
        x.shop(0);
        x.begin(0, 0, 0, 1, 0, 0);
        x.spend(0, 0, 1, 0);
        x.spend(0, 0, 1, 0);
        x.spend(0, 0, 1, 0);
        x.withdraw(1);
        x.withdraw(2);
        for (int i = 0; i < 5; i++) {
            x.item(1, 0);
        }
        for (int i = 0; i < 6; i++) {
            x.promotion(1, 1, 1);
        }
        for (int i = 0; i < 7; i++) {
            x.exchange(0, 1, 1, 1);
        }
        for (int i = 0; i < 8; i++) {
            x.guess(0, 0);
        }
        x.days(9);
        for (int i = 0; i < 10; i++) {
            x.tell(0);
        }
        x.feed(0, 0, 0);
        x.trim(11);
        int[] due = {2, 3, 1, 4, 2, 5, 6, 7, 8, 9, 10, 11};
        for (int what = 0; what < due.length; what++) {
            Due.due("40: count(" + what + ")", x.count(what), due[what]);
        }
        Due.due("40: -1", x.count(-1), BAD);
        Due.due("40: 12", x.count(12), BAD);
    }
}
