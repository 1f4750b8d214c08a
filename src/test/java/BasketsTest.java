/** Promises 22 to 31: baskets and promotions. */
final class BasketsTest {
    private static final int BAD = VoucherHall.BAD, FULL = VoucherHall.FULL, SPENT = VoucherHall.SPENT, NONE = VoucherHall.NONE;

    private BasketsTest() {
    }

    public static void main(String[] args) {
        item();
        items();
        empty();
        promotion();
        join();
        part();
        off();
        pair();
        cap();
        takenOffStays();
        costs();
        mix();
        tries();
        mixed();
        tell();
        check();
        Due.end("BasketsTest");
    }

    private static VoucherHall basket(int... pricesAndSorts) {
        VoucherHall x = new VoucherHall();
        for (int i = 0; i < pricesAndSorts.length; i += 2) {
            x.item(pricesAndSorts[i], pricesAndSorts[i + 1]);
        }
        return x;
    }

    private static void joinAll(VoucherHall x) {
        for (int one = 0; one < x.count(6); one++) {
            for (int other = 0; other < one; other++) {
                x.join(one, other, 1);
            }
        }
    }

    private static void item() {
        VoucherHall x = new VoucherHall();
        Due.due("22: price", x.item(0, 0), BAD);
        Due.due("22: price", x.item(10000, 0), BAD);
        Due.due("22: price", x.item(-1, 0), BAD);
        Due.due("22: sort", x.item(1, -1), BAD);
        Due.due("22: sort", x.item(1, 8), BAD);
        for (int i = 1; i <= 8; i++) {
            Due.due("22: item", x.item(i == 1 ? 1 : 9999, i - 1), i);
        }
        Due.due("22: ninth", x.item(1, 0), FULL);
        Due.due("22: BAD ahead of FULL", x.item(0, 0), BAD);
        Due.due("22: all", x.costs(0), 1 + 7 * 9999);
    }

    private static void items() {
        VoucherHall x = new VoucherHall();
        Due.due("23: missing", x.items(0, 0), VoucherHall.NOTHING);
        Due.due("23: sort", x.items(-1, 0), BAD);
        Due.due("23: sort", x.items(8, 0), BAD);
        Due.due("23: sheet", x.items(0, 2), BAD);
        Due.due("23: sheet", x.items(0, -1), BAD);
        x.sheet(0, 0);
        Due.due("23: no places", x.items(0, 0), 0);
        x.sheet(1, 16);
        int[] marks = {0, 1, -1, 9999, 10000, 65537, 32768, 5, 6, 7, 8, 9, 10};
        for (int i = 0; i < marks.length; i++) {
            x.mark(1, i, marks[i]);
        }
        x.item(100, 0);
        Due.due("23: as long as there is room", x.items(7, 1), 7);
        Due.due("23: all", x.costs(0), 100 + 1 + 9999 + 1 + 5 + 6 + 7 + 8);
        Due.due("23: no room", x.items(7, 1), 0);
        x.promotion(0, 50, 128);
        Due.due("23: their sort", x.costs(1), 100 + 1 + 5000 + 1 + 3 + 3 + 4 + 4);
    }

    private static void empty() {
        VoucherHall x = basket(5, 0, 6, 1);
        Due.due("24: had", x.empty(), 2);
        Due.due("24: had", x.empty(), 0);
        Due.due("24: all", x.costs(0), 0);
        Due.due("24: count", x.count(5), 0);
        Due.due("24: item", x.item(3, 0), 1);
        Due.due("24: all", x.costs(0), 3);
    }

    private static void promotion() {
        VoucherHall x = new VoucherHall();
        int[][] bad = {{-1, 1, 1}, {4, 1, 1}, {0, 0, 1}, {0, 91, 1}, {0, 1, -1}, {0, 1, 256}, {1, 0, 0}, {1, 10000, 0}, {1, 1, -1},
            {1, 1, 100000}, {2, 1, 1}, {2, 9, 1}, {2, 2, -1}, {2, 2, 256}, {3, 0, 1}, {3, 100000, 1}, {3, 1, 0}, {3, 1, 9}};
        for (int[] b : bad) {
            Due.due("25: BAD " + java.util.Arrays.toString(b), x.promotion(b[0], b[1], b[2]), BAD);
        }
        int[][] edges = {{0, 1, 0}, {0, 90, 255}, {1, 1, 0}, {1, 9999, 99999}, {2, 2, 0}, {2, 8, 255}, {3, 1, 1}, {3, 99999, 8}};
        for (int i = 0; i < edges.length; i++) {
            VoucherHall y = new VoucherHall();
            Due.due("25: edge " + i, y.promotion(edges[i][0], edges[i][1], edges[i][2]), 0);
            Due.due("25: promotion " + i, x.promotion(edges[i][0], edges[i][1], edges[i][2]), i < 6 ? i : FULL);
        }
        Due.due("25: BAD ahead of FULL", x.promotion(0, 0, 0), BAD);
        Due.due("25: count", x.count(6), 6);
    }

    private static void join() {
        VoucherHall x = basket(100, 0);
        Due.due("26: none", x.join(0, 1, 1), BAD);
        x.promotion(1, 1, 0);
        x.promotion(1, 2, 0);
        x.promotion(1, 4, 0);
        Due.due("26: one", x.join(1, 1, 1), BAD);
        Due.due("26: one", x.join(3, 1, 1), BAD);
        Due.due("26: one", x.join(-1, 1, 1), BAD);
        Due.due("26: other", x.join(1, 3, 1), BAD);
        Due.due("26: other", x.join(1, -1, 1), BAD);
        Due.due("26: on", x.join(0, 1, 2), BAD);
        Due.due("26: on", x.join(0, 1, -1), BAD);
        Due.due("26: not at first", x.mix(5000), 96);
        Due.due("26: was not", x.join(0, 1, 0), 0);
        Due.due("26: was not", x.join(0, 1, 1), 0);
        Due.due("26: both ways", x.join(1, 0, 1), 1);
        Due.due("26: joining", x.costs(12), 97);
        Due.due("26: both ways", x.costs(21), 97);
        Due.due("26: no more", x.join(1, 0, 0), 1);
        Due.due("26: was not", x.join(0, 1, 0), 0);
        Due.due("26: not joining", x.costs(12), BAD);
    }

    private static void part() {
        VoucherHall x = basket(99, 0, 99, 1, 99, 7, 1, 0);
        x.promotion(0, 33, 1 + 128);
        x.promotion(0, 90, 255);
        x.promotion(0, 90, 0);
        x.join(0, 1, 1);
        Due.due("3: what is less is cut for each", x.costs(1), 99 - 32 + 99 + 99 - 32 + 1);
        Due.due("3: all sorts", x.costs(2), 10 + 10 + 10 + 1);
        Due.due("3: no sort", x.costs(3), 298);
        Due.due("3: of what it costs by then", x.costs(12), 7 + 10 + 7 + 1);
        Due.due("3: of what it costs by then", x.costs(21), 7 + 10 + 7 + 1);
    }

    private static void off() {
        VoucherHall x = basket(50, 0, 50, 1);
        x.promotion(1, 30, 100);
        x.promotion(1, 30, 101);
        x.promotion(1, 9999, 0);
        x.promotion(1, 5, 70);
        x.promotion(1, 5, 71);
        joinAll(x);
        Due.due("3: b", x.costs(1), 70);
        Due.due("3: below b", x.costs(2), 100);
        Due.due("3: 0 at least", x.costs(3), 0);
        Due.due("3: by then", x.costs(14), 65);
        Due.due("3: by then", x.costs(15), 70);
        Due.due("3: by then", x.costs(41), 95);
        Due.due("3: 0 stays", x.costs(314), 0);
    }

    private static void pair() {
        VoucherHall x = basket(40, 0, 30, 1, 30, 2, 10, 3);
        x.promotion(2, 2, 6);
        x.promotion(2, 3, 6);
        x.promotion(2, 3, 7);
        x.promotion(2, 4, 15);
        x.promotion(0, 50, 2);
        x.promotion(0, 50, 4);
        joinAll(x);
        Due.due("3: two", x.costs(1), 80);
        Due.due("3: not three", x.costs(2), 110);
        Due.due("3: three", x.costs(3), 80);
        Due.due("3: four", x.costs(4), 100);
        Due.due("3: what costs nothing costs least", x.costs(13), 80);
        Due.due("3: of several the first", x.costs(15), 80);
        Due.due("3: of several the first", x.costs(16), 65);
        Due.due("3: least by then", x.costs(61), 80);
        Due.due("3: least by then", x.costs(51), 80);
        Due.due("3: four with one that costs nothing", x.costs(14), 80);
    }

    private static void cap() {
        VoucherHall x = basket(40, 0, 30, 1, 30, 2);
        x.promotion(3, 60, 3);
        x.promotion(3, 60, 4);
        x.promotion(3, 101, 1);
        x.promotion(2, 2, 255);
        x.promotion(1, 10, 60);
        joinAll(x);
        Due.due("3: cap", x.costs(1), 60);
        Due.due("3: too few", x.costs(2), 100);
        Due.due("3: below it", x.costs(3), 100);
        Due.due("3: ITEMS that cost nothing are ITEMS", x.costs(41), 60);
        Due.due("3: taken off stays", x.costs(14), 30);
        Due.due("3: off behind it", x.costs(15), 50);
        Due.due("3: off ahead of it", x.costs(51), 60);
    }

    private static void takenOffStays() {
        VoucherHall x = basket(100, 0, 100, 1);
        x.promotion(1, 120, 0);
        x.promotion(0, 50, 1);
        x.promotion(2, 2, 3);
        x.promotion(3, 50, 1);
        joinAll(x);
        Due.due("3: off, part", x.costs(12), 30);
        Due.due("3: part, off", x.costs(21), 30);
        Due.due("3: off, pair", x.costs(13), 0);
        Due.due("3: off, part, pair", x.costs(123), 0);
        Due.due("3: cap, off", x.costs(41), 0);
        Due.due("3: off, cap", x.costs(14), 50);
        Due.due("3: off, cap, part", x.costs(142), 0);
        Due.due("3: part, cap", x.costs(24), 50);
    }

    private static void costs() {
        VoucherHall x = basket(100, 0);
        Due.due("29: none", x.costs(0), 100);
        Due.due("29: one that there is not", x.costs(1), BAD);
        for (int i = 0; i < 6; i++) {
            x.promotion(1, 1 << i, 0);
        }
        Due.due("29: not joining", x.costs(12), BAD);
        joinAll(x);
        Due.due("29: six", x.costs(123456), 37);
        Due.due("29: six", x.costs(654321), 37);
        Due.due("29: 7", x.costs(7), BAD);
        Due.due("29: 9", x.costs(19), BAD);
        Due.due("29: twice", x.costs(1231), BAD);
        Due.due("29: a 0", x.costs(10), BAD);
        Due.due("29: a 0", x.costs(1023), BAD);
        Due.due("29: seven", x.costs(1234561), BAD);
        Due.due("29: seven", x.costs(1234567), BAD);
        Due.due("29: the greatest", x.costs(Integer.MAX_VALUE), BAD);
        Due.due("29: the least", x.costs(Integer.MIN_VALUE), BAD);
        Due.due("29: -12", x.costs(-12), BAD);
        x.join(0, 2, 0);
        Due.due("29: two that are not next to one another", x.costs(123), BAD);
    }

    private static void mix() {
        VoucherHall x = basket(100, 0, 60, 1, 40, 1);
        Due.due("27: none", x.mix(1), 200);
        x.promotion(1, 50, 200);
        x.promotion(0, 50, 2);
        Due.due("27: of several with the fewest, the first", x.mix(5000), 150);
        Due.due("28: the first", x.mixed(5000, 0), 0);
        Due.due("28: one", x.mixed(5000, 1), NONE);
        x.join(0, 1, 1);
        Due.due("27: in the order that costs least", x.mix(5000), 100);
        Due.due("28: first", x.mixed(5000, 0), 0);
        Due.due("28: second", x.mixed(5000, 1), 1);
        x.promotion(3, 100, 1);
        Due.due("27: fewer", x.mix(5000), 100);
        Due.due("28: fewer", x.mixed(5000, 0), 2);
        Due.due("28: fewer", x.mixed(5000, 1), NONE);
        Due.due("27: tries", x.mix(0), BAD);
        Due.due("27: tries", x.mix(-1), BAD);
        Due.due("27: tries", x.mix(5001), BAD);
        VoucherHall y = basket(100, 0);
        y.promotion(1, 10, 101);
        Due.due("27: one that brings nothing is not in it", y.mix(5), 100);
        Due.due("28: none", y.mixed(5, 0), NONE);
    }

    private static void tries() {
        VoucherHall x = basket(9, 0);
        int[] all = {0, 1, 4, 15, 64, 325, 1956};
        for (int n = 1; n <= 6; n++) {
            x.promotion(1, 1, 0);
            Due.due("27: not joining yet", x.mix(5000) == SPENT ? 1 : 0, 0);
            joinAll(x);
            Due.due("27: so many tries", x.mix(all[n]), 9 - n);
            Due.due("28: so many tries", x.mixed(all[n], 0), 0);
            if (n > 1) {
                Due.due("27: one try fewer", x.mix(all[n] - 1), SPENT);
                Due.due("28: one try fewer", x.mixed(all[n] - 1, 0), SPENT);
                Due.due("28: SPENT ahead of NONE", x.mixed(all[n] - 1, 9), SPENT);
            }
            Due.due("28: the last by numbers", x.mixed(5000, n - 1), n - 1);
        }
        x.join(0, 1, 0);
        Due.due("27: each two are joining", x.mix(5000), 9 - 5);
    }

    private static void mixed() {
        VoucherHall x = basket(100, 0);
        Due.due("28: none", x.mixed(1, 0), NONE);
        Due.due("28: i", x.mixed(1, -1), BAD);
        Due.due("28: tries", x.mixed(0, 0), BAD);
        Due.due("28: tries", x.mixed(5001, 0), BAD);
        Due.due("28: the greatest", x.mixed(1, Integer.MAX_VALUE), NONE);
        x.promotion(1, 10, 90);
        x.promotion(1, 10, 100);
        x.join(0, 1, 1);
        Due.due("28: the order", x.mixed(4, 0), 1);
        Due.due("28: the order", x.mixed(4, 1), 0);
        Due.due("28: no more", x.mixed(4, 2), NONE);
    }

    private static void tell() {
        VoucherHall x = new VoucherHall();
        for (int i = 1; i <= 20; i++) {
            Due.due("30: tell", x.tell(i * 1000003), i);
        }
        Due.due("30: FULL", x.tell(0), FULL);
        Due.due("30: count", x.count(10), 20);
        Due.due("31: one too many", x.check(), 1);
        Due.due("31: none wait then", x.count(10), 0);
        Due.due("30: again", x.tell(7), 1);
    }

    private static int told(VoucherHall x, int... numbers) {
        for (int number : numbers) {
            x.tell(number);
        }
        return x.check();
    }

    private static void check() {
        VoucherHall x = basket(100, 0);
        Due.due("31: no rows", told(x), 0);
        Due.due("31: one too many", told(x, 0), 1);
        x.promotion(1, 10, 90);
        x.promotion(1, 20, 100);
        x.join(0, 1, 1);
        Due.due("31: one row", told(x, 1, 80), 0);
        Due.due("31: missing", told(x), 1);
        Due.due("31: missing", told(x, 1), 2);
        Due.due("31: too many", told(x, 1, 80, 0), 3);
        Due.due("31: wrong", told(x, 0, 80), 1);
        Due.due("31: wrong", told(x, 1, 81), 2);
        x.promotion(1, 5, 0);
        x.join(2, 0, 1);
        x.join(2, 1, 1);
        Due.due("31: rows", told(x, 1, 80, 2, 75), 0);
        Due.due("31: another order", told(x, 2, 95, 1, 75), 1);
        Due.due("31: the third", told(x, 1, 80, 0, 75), 3);
        Due.due("31: the fourth", told(x, 1, 80, 2, 74), 4);
        Due.due("31: missing", told(x, 1, 80, 2), 4);
        Due.due("31: the first that is not", told(x, 1, 0, 2, 75), 2);
        Due.due("31: none wait", x.count(10), 0);
        VoucherHall y = basket(100, 0);
        for (int i = 0; i < 6; i++) {
            y.promotion(1, 10, 0);
        }
        joinAll(y);
        Due.due("31: six rows", told(y, 0, 90, 1, 80, 2, 70, 3, 60, 4, 50, 5, 40), 0);
        Due.due("31: the twelfth", told(y, 0, 90, 1, 80, 2, 70, 3, 60, 4, 50, 5, 41), 12);
        Due.due("31: the thirteenth", told(y, 0, 90, 1, 80, 2, 70, 3, 60, 4, 50, 5, 40, 0), 13);
    }
}
