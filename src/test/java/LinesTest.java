/** Promises 1 to 18: firms, vouchers, lines. */
final class LinesTest {
    private static final int BAD = VoucherHall.BAD, NO = VoucherHall.NO, FULL = VoucherHall.FULL, NONE = VoucherHall.NONE;

    private LinesTest() {
    }

    public static void main(String[] args) {
        newObject();
        firmAndShop();
        days();
        begin();
        isOf();
        sumLines();
        splitLines();
        loseLines();
        withdraw();
        line();
        fullLines();
        stands();
        order();
        spendBrings();
        loadBrings();
        splitBrings();
        returnBrings();
        loseBrings();
        idle();
        owes();
        gain();
        fall();
        Due.end("LinesTest");
    }

    private static void newObject() {
        VoucherHall x = new VoucherHall();
        for (int what = 0; what <= 11; what++) {
            Due.due("1: count(" + what + ")", x.count(what), 0);
        }
        Due.due("1: no firm", x.shop(0), BAD);
        Due.due("1: idle", x.idle(0, 0), 0);
        Due.due("1: tries", x.tries(3), 3);
        Due.due("1: sheet 0", x.mark(0, 0, 0), VoucherHall.NOTHING);
        Due.due("1: sheet 1", x.mark(1, 0, 0), VoucherHall.NOTHING);
    }

    private static void firmAndShop() {
        VoucherHall x = new VoucherHall();
        for (int i = 0; i < 5; i++) {
            Due.due("3: shop ahead of firm", x.shop(i), BAD);
            Due.due("2: firm", x.firm(), i);
        }
        Due.due("2: sixth firm", x.firm(), FULL);
        Due.due("2: firms stay", x.count(0), 5);
        Due.due("3: firm -1", x.shop(-1), BAD);
        Due.due("3: firm 5", x.shop(5), BAD);
        for (int i = 0; i < 10; i++) {
            Due.due("3: shop", x.shop(i % 5), i);
        }
        Due.due("3: eleventh shop", x.shop(4), FULL);
        Due.due("3: BAD ahead of FULL", x.shop(5), BAD);
        Due.due("3: shops stay", x.count(1), 10);
    }

    private static void days() {
        VoucherHall x = new VoucherHall();
        Due.due("4: 0", x.days(0), BAD);
        Due.due("4: -1", x.days(-1), BAD);
        Due.due("4: 101", x.days(101), BAD);
        Due.due("4: least", x.days(Integer.MIN_VALUE), BAD);
        Due.due("4: greatest", x.days(Integer.MAX_VALUE), BAD);
        Due.due("4: 1", x.days(1), 1);
        for (int i = 1; i <= 8; i++) {
            Due.due("4: 100", x.days(100), 1 + 100 * i);
        }
        Due.due("4: above 900", x.days(100), BAD);
        Due.due("4: 900", x.days(99), 900);
        Due.due("4: behind 900", x.days(1), BAD);
        Due.due("4: TODAY", x.count(9), 900);
    }

    private static void begin() {
        VoucherHall x = Hall.withFirms(2);
        x.days(3);
        int[][] bad = {
            {-1, 0, 0, 1, 0, 0}, {-10, 0, 0, 1, 0, 0}, {3, 0, 0, 1, 0, 0}, {13, 0, 0, 1, 0, 0}, {39, 0, 0, 1, 0, 0}, {40, 0, 0, 1, 0, 0},
            {0, -1, 0, 1, 0, 0}, {0, 2, 0, 1, 0, 0}, {0, 0, -1, 1, 0, 0}, {0, 0, 10000, 1, 0, 0},
            {0, 0, 0, 0, 0, 0}, {0, 0, 0, 901, 0, 0}, {0, 0, 0, 1, -1, 0}, {0, 0, 0, 1, 100001, 0},
            {0, 0, 0, 1, 0, -1}, {0, 0, 0, 1, 0, 4}};
        for (int[] b : bad) {
            Due.due("5: BAD " + java.util.Arrays.toString(b), x.begin(b[0], b[1], b[2], b[3], b[4], b[5]), BAD);
        }
        Due.due("5: none came", x.count(2) + x.count(3), 0);
        Due.due("5: edges", x.begin(32, 1, 9999, 900, 100000, 3), 0);
        Due.due("5: edges", x.begin(0, 0, 0, 1, 0, 0), 1);
        for (int i = 2; i < 30; i++) {
            Due.due("5: more", x.begin(10 * (i % 4) + i % 3, 0, i, i, i, 1), i);
        }
        Due.due("5: 31st", x.begin(0, 0, 0, 1, 0, 0), FULL);
        Due.due("5: BAD ahead of FULL", x.begin(0, 0, 0, 1, 0, 4), BAD);
        Due.due("5: vouchers", x.count(2), 30);
        Due.due("5: lines", x.count(3), 30);
    }

    private static void isOf() {
        VoucherHall x = Hall.withFirms(1);
        int[][] due = {{1, 0, 0, 0}, {1, 1, 0, 0}, {1, 0, 1, 0}, {1, 0, 1, 1}};
        for (int kind = 0; kind < 4; kind++) {
            x.begin(10 * kind + 2, 0, 0, 1, 0, 0);
            for (int asked = 0; asked < 4; asked++) {
                Due.due("6: " + kind + " is of " + asked, x.isOf(kind, asked), due[kind][asked]);
            }
        }
        Due.due("6: voucher", x.isOf(4, 0), BAD);
        Due.due("6: voucher", x.isOf(-1, 0), BAD);
        Due.due("6: kind", x.isOf(0, 4), BAD);
        Due.due("6: kind", x.isOf(0, -1), BAD);
    }

    private static void sumLines() {
        VoucherHall x = Hall.withFirms(1);
        x.days(2);
        x.begin(10, 0, 0, 1, 10, 0);
        int[] vouchers = {-1, 1, 0, 0, 0, 0};
        int[] sums = {1, 1, 0, 100001, 1, 1};
        int[] abouts = {0, 0, 0, 0, -1, 3};
        for (int i = 0; i < vouchers.length; i++) {
            Due.due("7: BAD " + i, x.spend(vouchers[i], 0, sums[i], abouts[i]), BAD);
            Due.due("8: BAD " + i, x.load(vouchers[i], sums[i], abouts[i]), BAD);
            Due.due("10: BAD " + i, x.back(vouchers[i], 0, sums[i], abouts[i]), BAD);
        }
        Due.due("7: shop", x.spend(0, 1, 1, 0), BAD);
        Due.due("7: shop", x.spend(0, -1, 1, 0), BAD);
        Due.due("10: shop", x.back(0, 1, 1, 0), BAD);
        Due.due("10: shop", x.back(0, -1, 1, 0), BAD);
        Due.due("7: line", x.spend(0, 0, 1, 0), 1);
        Due.due("7: line", x.spend(0, 0, 100000, 2), 2);
        Due.due("8: line", x.load(0, 1, 0), 3);
        Due.due("8: line", x.load(0, 100000, 2), 4);
        Due.due("10: line", x.back(0, 0, 1, 0), 5);
        Due.due("10: line", x.back(0, 0, 100000, 2), 6);
    }

    private static void splitLines() {
        VoucherHall x = Hall.withFirms(1);
        x.begin(0, 0, 0, 1, 10, 0);
        x.begin(0, 0, 0, 1, 10, 0);
        Due.due("9: one", x.split(0, 0, 1, 0), BAD);
        Due.due("9: voucher", x.split(2, 0, 1, 0), BAD);
        Due.due("9: voucher", x.split(-1, 0, 1, 0), BAD);
        Due.due("9: other", x.split(0, 2, 1, 0), BAD);
        Due.due("9: other", x.split(0, NONE, 1, 0), BAD);
        Due.due("9: both", x.split(NONE, NONE, 1, 0), BAD);
        Due.due("9: sum", x.split(0, 1, 0, 0), BAD);
        Due.due("9: sum", x.split(0, 1, 100001, 0), BAD);
        Due.due("9: about", x.split(0, 1, 1, 1), BAD);
        Due.due("9: about", x.split(0, 1, 1, -1), BAD);
        Due.due("9: line", x.split(0, 1, 100000, 0), 2);
    }

    private static void loseLines() {
        VoucherHall x = Hall.withFirms(1);
        x.begin(0, 0, 0, 1, 10, 0);
        x.begin(0, 0, 0, 1, 10, 0);
        Due.due("11: one", x.lose(1, 1, 0), BAD);
        Due.due("11: voucher", x.lose(2, 1, 0), BAD);
        Due.due("11: voucher", x.lose(NONE, NONE, 0), BAD);
        Due.due("11: voucher", x.lose(NONE, 0, 0), BAD);
        Due.due("11: other", x.lose(1, 2, 0), BAD);
        Due.due("11: other", x.lose(1, -1, 0), BAD);
        Due.due("11: about", x.lose(1, 0, 1), BAD);
        Due.due("11: about", x.lose(1, 0, -1), BAD);
        Due.due("11: line", x.lose(1, 0, 0), 2);
        Due.due("11: none", x.lose(1, NONE, 0), 3);
    }

    private static void withdraw() {
        VoucherHall x = Hall.withFirms(1);
        Due.due("12: none", x.withdraw(0), BAD);
        x.begin(0, 0, 0, 10, 10, 0);
        x.spend(0, 0, 3, 0);
        Due.due("12: -1", x.withdraw(-1), BAD);
        Due.due("12: 2", x.withdraw(2), BAD);
        x.days(4);
        Due.due("12: withdrawn", x.withdraw(1), 1);
        x.days(1);
        Due.due("12: again", x.withdraw(1), NO);
        Due.due("12: its day stays", x.line(1, 4), 4);
        Due.due("12: count", x.count(4), 1);
        Due.due("12: known on 3", x.stands(0, 5, 3, 0), 7);
        Due.due("12: not known on 4", x.stands(0, 5, 4, 0), 10);
        Due.due("12: begin", x.withdraw(0), 1);
        Due.due("12: no voucher as known on 5", x.stands(0, 5, 5, 0), NO);
        Due.due("12: one as known on 4", x.stands(0, 5, 4, 0), 10);
        Due.due("12: voucher is counted", x.count(2), 1);
    }

    private static void line() {
        VoucherHall x = Hall.withFirms(2);
        x.begin(0, 0, 7, 10, 11, 0);
        x.days(3);
        x.begin(10, 0, 8, 10, 12, 2);
        x.spend(1, 1, 4, 3);
        x.load(1, 5, 1);
        x.split(0, 1, 6, 2);
        x.back(1, 0, 7, 0);
        x.lose(1, 0, 3);
        x.lose(1, NONE, 3);
        x.days(2);
        x.withdraw(4);
        int[][] due = {
            {0, 0, 0, 0, NONE, 11, NONE}, {0, 1, 2, 3, NONE, 12, NONE}, {1, 1, 3, 3, NONE, 4, 1}, {2, 1, 1, 3, NONE, 5, NONE},
            {3, 0, 2, 3, 5, 6, 1}, {4, 1, 0, 3, NONE, 7, 0}, {5, 1, 3, 3, NONE, 0, 0}, {5, 1, 3, 3, NONE, 0, NONE}};
        for (int line = 0; line < due.length; line++) {
            for (int what = 0; what < 7; what++) {
                Due.due("13: line(" + line + ", " + what + ")", x.line(line, what), due[line][what]);
            }
        }
        Due.due("13: line", x.line(8, 0), BAD);
        Due.due("13: line", x.line(-1, 0), BAD);
        Due.due("13: what", x.line(0, 7), BAD);
        Due.due("13: what", x.line(0, -1), BAD);
    }

    private static void fullLines() {
        VoucherHall x = Hall.withFirms(1);
        x.begin(10, 0, 0, 1, 10, 0);
        x.begin(10, 0, 0, 1, 10, 0);
        for (int i = 2; i < 100; i++) {
            Due.due("8: line", x.load(0, 1, 0), i);
        }
        Due.due("7: FULL", x.spend(0, 0, 1, 0), FULL);
        Due.due("8: FULL", x.load(0, 1, 0), FULL);
        Due.due("9: FULL", x.split(0, 1, 1, 0), FULL);
        Due.due("10: FULL", x.back(0, 0, 1, 0), FULL);
        Due.due("11: FULL", x.lose(0, 1, 0), FULL);
        Due.due("5: FULL", x.begin(0, 0, 0, 1, 0, 0), FULL);
        Due.due("7: BAD ahead of FULL", x.spend(0, 1, 1, 0), BAD);
        Due.due("8: BAD ahead of FULL", x.load(0, 0, 0), BAD);
        Due.due("9: BAD ahead of FULL", x.split(0, 0, 1, 0), BAD);
        Due.due("10: BAD ahead of FULL", x.back(0, 0, 1, 1), BAD);
        Due.due("11: BAD ahead of FULL", x.lose(0, 0, 0), BAD);
        Due.due("5: no voucher came", x.count(2), 2);
        Due.due("lines", x.count(3), 100);
        Due.due("worth", x.stands(0, 0, 0, 0), 108);
    }

    private static void stands() {
        VoucherHall x = Hall.withFirms(1);
        x.days(10);
        x.begin(0, 0, 0, 5, 50, 4);
        for (int what = -1; what <= 5; what++) {
            boolean right = what >= 0 && what <= 4;
            Due.due("14: what " + what, x.stands(0, 3, 10, what), right ? NO : BAD);
            Due.due("14: what " + what, x.stands(0, 10, 9, what), right ? NO : BAD);
        }
        Due.due("14: voucher", x.stands(1, 4, 10, 0), BAD);
        Due.due("14: voucher", x.stands(-1, 4, 10, 0), BAD);
        Due.due("14: day", x.stands(0, 901, 10, 0), BAD);
        Due.due("14: day", x.stands(0, -1, 10, 0), BAD);
        Due.due("14: known", x.stands(0, 4, 901, 0), BAD);
        Due.due("14: known", x.stands(0, 4, -1, 0), BAD);
        Due.due("14: worth", x.stands(0, 4, 10, 0), 50);
        Due.due("14: worth", x.stands(0, 900, 900, 0), 50);
        Due.due("14: not ended", x.stands(0, 9, 10, 1), 0);
        Due.due("14: ended", x.stands(0, 10, 10, 1), 1);
        Due.due("14: life", x.stands(0, 10, 10, 2), 5);
        Due.due("14: from", x.stands(0, 10, 10, 3), 4);
        Due.due("14: no change without a law", x.stands(0, 4, 10, 4), 0);
        Hall.law(x, 0, "end 6 change a=5|a=6|a=7 gain 0");
        Due.due("14: change", x.stands(0, 8, 10, 4), 0);
        Due.due("14: change", x.stands(0, 9, 10, 4), 1);
        Due.due("14: change on the last day", x.stands(0, 10, 10, 4), 1);
        Due.due("14: no change of an ended one", x.stands(0, 11, 10, 4), 0);
        x.spend(0, 0, 49, 10);
        Due.due("14: change of a worth of 1", x.stands(0, 10, 10, 4), 1);
        x.spend(0, 0, 1, 10);
        Due.due("14: no change without worth", x.stands(0, 10, 10, 4), 0);
    }

    private static void order() {
        VoucherHall x = Hall.withFirms(1);
        x.begin(10, 0, 0, 900, 10, 0);
        x.days(5);
        x.spend(0, 0, 15, 3);
        x.spend(0, 0, 10, 5);
        Due.due("14: too much", x.stands(0, 5, 5, 0), 0);
        x.load(0, 7, 2);
        Due.due("14: an earlier day's line goes first", x.stands(0, 5, 5, 0), 2);
        Due.due("14: day 2", x.stands(0, 2, 5, 0), 17);
        Due.due("14: day 1", x.stands(0, 1, 5, 0), 10);
        x.load(0, 100, 3);
        Due.due("14: of one day by numbers", x.stands(0, 3, 5, 0), 102);
        x.days(1);
        x.spend(0, 0, 1, 3);
        Due.due("14: told later", x.stands(0, 3, 5, 0), 102);
        Due.due("14: known", x.stands(0, 3, 6, 0), 101);
    }

    private static void spendBrings() {
        VoucherHall x = Hall.withFirms(1);
        x.days(20);
        x.begin(0, 0, 0, 5, 50, 10);
        x.spend(0, 0, 1, 9);
        Due.due("7: not live yet", x.stands(0, 20, 20, 0), 50);
        x.spend(0, 0, 2, 15);
        Due.due("7: on the last day", x.stands(0, 20, 20, 0), 48);
        x.spend(0, 0, 4, 16);
        Due.due("7: ended", x.stands(0, 20, 20, 0), 48);
        x.spend(0, 0, 49, 12);
        Due.due("7: day 12 is ahead of day 15", x.stands(0, 20, 20, 0), 1);
        x.spend(0, 0, 2, 12);
        Due.due("7: less worth", x.stands(0, 20, 20, 0), 1);
        x.spend(0, 0, 1, 12);
        Due.due("7: all", x.stands(0, 20, 20, 0), 0);
        Due.due("15: brought nothing", x.idle(20, 20), 4);
        Hall.law(x, 0, "end (w=48)*6 change 0 gain 0");
        Due.due("7: life by the worth by then", x.idle(20, 20), 4);
    }

    private static void loadBrings() {
        VoucherHall x = Hall.withFirms(1);
        x.days(10);
        for (int kind = 0; kind < 4; kind++) {
            x.begin(10 * kind, 0, 0, 2, 99990, 0);
            x.load(kind, 10, 8);
            Due.due("8: kind " + kind, x.stands(kind, 10, 10, 0), kind == 1 ? 100000 : 99990);
            Due.due("8: from", x.stands(kind, 10, 10, 3), kind == 1 ? 8 : 0);
        }
        x.load(1, 1, 9);
        Due.due("8: above 100000", x.stands(1, 10, 10, 0), 100000);
        Due.due("8: from stays", x.stands(1, 10, 10, 3), 8);
        x.load(1, 1, 0);
        Due.due("8: then the one of day 8 brings nothing", x.stands(1, 10, 10, 0), 99992);
        Due.due("8: from of the one that brings", x.stands(1, 10, 10, 3), 9);
    }

    private static void splitBrings() {
        VoucherHall x = Hall.withFirms(2);
        x.days(10);
        x.begin(0, 0, 0, 5, 50, 1);
        x.begin(10, 0, 0, 1, 99980, 1);
        x.begin(0, 1, 0, 5, 50, 1);
        x.split(0, 2, 1, 2);
        Due.due("9: another firm", x.stands(0, 10, 10, 0), 50);
        x.split(0, 1, 20, 6);
        Due.due("9: to an ended one", x.stands(1, 10, 10, 0), 100000);
        Due.due("9: from one", x.stands(0, 10, 10, 0), 30);
        Due.due("9: from stays", x.stands(1, 10, 10, 3), 1);
        x.split(0, 1, 1, 6);
        Due.due("9: above 100000", x.stands(0, 10, 10, 0), 30);
        x.split(1, 0, 1, 3);
        Due.due("9: of an ended one", x.stands(0, 10, 10, 0), 30);
        x.split(1, 0, 99981, 2);
        Due.due("9: less worth", x.stands(0, 10, 10, 0), 30);
        x.split(1, 0, 5, 2);
        Due.due("9: brought", x.stands(0, 5, 10, 0), 55);
        x.split(0, 1, 1, 0);
        Due.due("9: not live yet", x.idle(0, 10), 1);
        x.lose(2, NONE, 1);
        x.split(2, 0, 1, 2);
        Due.due("9: lost", x.stands(0, 5, 10, 0), 55);
        x.begin(0, 0, 0, 5, 50, 4);
        x.split(0, 3, 1, 3);
        Due.due("9: the other is not live yet", x.stands(3, 5, 10, 0), 50);
        x.split(0, 3, 1, 4);
        Due.due("9: it is", x.stands(3, 5, 10, 0), 51);
        Due.due("16: a split sells nothing", x.owes(0, 1, 10, 10), 0);
    }

    private static void returnBrings() {
        VoucherHall x = Hall.withFirms(2);
        x.days(10);
        x.begin(0, 0, 0, 5, 99990, 1);
        x.back(0, 1, 10, 9);
        Due.due("10: to an ended one", x.stands(0, 10, 10, 0), 100000);
        Due.due("10: sold less", x.owes(0, 1, 10, 10), -10);
        x.back(0, 1, 1, 9);
        Due.due("10: above 100000", x.stands(0, 10, 10, 0), 100000);
        Due.due("10: nothing sold less", x.owes(0, 1, 10, 10), -10);
        x.back(0, 1, 1, 0);
        Due.due("10: not live yet", x.owes(0, 1, 10, 10), -10);
        Due.due("10: from stays", x.stands(0, 10, 10, 3), 1);
    }

    private static void loseBrings() {
        VoucherHall x = Hall.withFirms(2);
        x.days(10);
        x.begin(0, 0, 0, 1, 20, 1);
        x.begin(0, 0, 0, 5, 99980, 1);
        x.begin(0, 1, 0, 5, 7, 1);
        x.begin(0, 0, 0, 5, 1, 1);
        x.lose(0, 1, 9);
        Due.due("11: not live", x.stands(0, 9, 10, 0), NO);
        Due.due("11: live ahead of it", x.stands(0, 8, 10, 0), 20);
        Due.due("11: worth of an ended one goes", x.stands(1, 9, 10, 0), 100000);
        x.lose(3, 1, 10);
        Due.due("11: above 100000 it is gone", x.stands(1, 10, 10, 0), 100000);
        Due.due("11: not live", x.stands(3, 10, 10, 0), NO);
        x.lose(2, 1, 2);
        Due.due("11: another firm", x.stands(1, 2, 10, 0), 99980);
        Due.due("11: not live", x.stands(2, 2, 10, 0), NO);
        Due.due("15: losing brings something", x.idle(10, 10), 0);
        x.lose(1, 3, 0);
        Due.due("11: not live yet", x.stands(1, 1, 10, 0), 99980);
        Due.due("15: that brings nothing", x.idle(10, 10), 1);
        x.lose(1, NONE, 3);
        Due.due("11: none", x.stands(1, 3, 10, 0), NO);
        Due.due("11: the other is lost itself", x.stands(0, 9, 10, 0), NO);
        x.back(1, 0, 5, 4);
        Due.due("15: behind it nothing is brought", x.idle(10, 10), 2);
    }

    private static void idle() {
        VoucherHall x = Hall.withFirms(1);
        x.days(5);
        x.begin(0, 0, 0, 5, 10, 2);
        x.load(0, 1, 3);
        x.load(0, 1, 4);
        x.days(1);
        x.load(0, 1, 4);
        x.withdraw(1);
        Due.due("15: known on 4", x.idle(6, 4), 0);
        Due.due("15: known on 5", x.idle(6, 5), 2);
        Due.due("15: known on 6", x.idle(6, 6), 2);
        Due.due("15: about 3", x.idle(3, 5), 1);
        Due.due("15: about 3, known on 6", x.idle(3, 6), 0);
        Due.due("15: the end", x.idle(900, 900), 2);
        Due.due("15: day", x.idle(-1, 0), BAD);
        Due.due("15: day", x.idle(901, 0), BAD);
        Due.due("15: known", x.idle(0, -1), BAD);
        Due.due("15: known", x.idle(0, 901), BAD);
    }

    private static void owes() {
        VoucherHall x = Hall.withFirms(3);
        x.shop(1);
        x.days(3);
        x.begin(0, 0, 0, 5, 100, 0);
        x.begin(0, 1, 0, 5, 100, 0);
        x.spend(0, 1, 10, 1);
        x.spend(0, 3, 20, 2);
        x.spend(0, 0, 5, 2);
        x.spend(1, 0, 7, 3);
        x.back(0, 1, 3, 3);
        Due.due("16: day 0", x.owes(0, 1, 0, 3), 0);
        Due.due("16: day 1", x.owes(0, 1, 1, 3), 10);
        Due.due("16: day 2, both shops", x.owes(0, 1, 2, 3), 30);
        Due.due("16: day 3", x.owes(0, 1, 3, 3), 20);
        Due.due("16: the other way", x.owes(1, 0, 3, 3), -20);
        Due.due("16: as known on 2", x.owes(0, 1, 3, 2), 0);
        Due.due("16: itself", x.owes(0, 0, 3, 3), 0);
        Due.due("16: a third", x.owes(0, 2, 3, 3), 0);
        Due.due("16: firm", x.owes(3, 0, 0, 0), BAD);
        Due.due("16: firm", x.owes(0, 3, 0, 0), BAD);
        Due.due("16: firm", x.owes(-1, 0, 0, 0), BAD);
        Due.due("16: firm", x.owes(0, -1, 0, 0), BAD);
        Due.due("16: day", x.owes(0, 1, 901, 0), BAD);
        Due.due("16: known", x.owes(0, 1, 0, 901), BAD);
        Due.due("16: day", x.owes(0, 1, -1, 0), BAD);
        Due.due("16: known", x.owes(0, 1, 0, -1), BAD);
    }

    private static void gain() {
        VoucherHall x = Hall.withFirms(2);
        x.begin(0, 0, 0, 5, 100, 0);
        x.begin(1, 0, 0, 5, 30, 0);
        x.begin(30, 0, 0, 3, 1000, 0);
        x.begin(0, 1, 0, 1, 7, 0);
        Due.due("17: none ended, no law", x.gain(0, 3, 0), 0);
        Due.due("17: a promise ended", x.gain(0, 4, 0), 1000);
        Due.due("17: all ended", x.gain(0, 6, 0), 1130);
        Hall.law(x, 0, "end 8 change 0 gain a*60-30");
        Due.due("17: below 0", x.gain(0, 0, 0), 0);
        Due.due("17: a 1", x.gain(0, 1, 0), 60);
        Due.due("17: worth at most", x.gain(0, 3, 0), 250);
        Due.due("17: ended ones wholly", x.gain(0, 4, 0), 1100);
        Due.due("17: the other land", x.gain(0, 6, 0), 1130);
        Due.due("17: the other firm", x.gain(1, 900, 900), 7);
        x.lose(2, NONE, 0);
        Due.due("17: lost", x.gain(0, 4, 0), 100);
        Due.due("17: firm", x.gain(2, 0, 0), BAD);
        Due.due("17: firm", x.gain(-1, 0, 0), BAD);
        Due.due("17: day", x.gain(0, 901, 0), BAD);
        Due.due("17: day", x.gain(0, -1, 0), BAD);
        Due.due("17: known", x.gain(0, 0, 901), BAD);
        Due.due("17: known", x.gain(0, 0, -1), BAD);
    }

    private static void fall() {
        VoucherHall x = Hall.withFirms(2);
        x.begin(0, 0, 0, 5, 10, 0);
        x.begin(0, 1, 0, 5, 1000, 0);
        x.begin(0, 0, 0, 5, 10, 0);
        x.begin(0, 0, 0, 5, 10, 0);
        x.begin(0, 0, 0, 5, 0, 0);
        int[] due = {4, 1000, 4, 3, 0};
        int[] coin = {11, 1000000, 11, 11, 11};
        for (int i = 0; i < due.length; i++) {
            Due.due("18: voucher " + i, x.fall(i, coin[i]), due[i]);
        }
        Due.due("18: worth at most", x.fall(3, 1000000), 10);
        Due.due("18: none", x.fall(0, 0), 0);
        Due.due("18: coin", x.fall(0, -1), BAD);
        Due.due("18: coin", x.fall(0, 1000001), BAD);
        Due.due("18: voucher", x.fall(5, 1), BAD);
        Due.due("18: voucher", x.fall(-1, 1), BAD);
        x.lose(2, NONE, 0);
        Due.due("18: not live", x.fall(2, 1), NO);
        Due.due("18: of two", x.fall(0, 11), 6);
        Due.due("18: of two", x.fall(3, 11), 5);
        x.days(6);
        Due.due("18: ended", x.fall(0, 1), NO);
        x.begin(10, 0, 0, 9, 99999, 6);
        Due.due("18: ended ones get nothing", x.fall(5, 99998), 99998);
        x.begin(10, 0, 0, 9, 100000, 6);
        Due.due("18: products beyond ints", x.fall(6, 199998), 99999);
        Due.due("18: products beyond ints", x.fall(5, 199998), 99999);
        x.withdraw(0);
        Due.due("18: as known today", x.fall(0, 1), NO);
        VoucherHall y = Hall.withFirms(1);
        y.begin(0, 0, 0, 5, 0, 0);
        Due.due("18: no worths", y.fall(0, 100), 0);
    }
}
