/** The edges that the document names of baskets, promotions, mixes and their rows. */
final class BasketEdgesTest {
    private static final int BAD = VoucherHall.BAD, NONE = VoucherHall.NONE, SPENT = VoucherHall.SPENT;

    private BasketEdgesTest() {
    }

    public static void main(String[] args) {
        noBasket();
        roomOfItems();
        pricesOfSheets();
        partIsCut();
        sortsAreBits();
        offFrom();
        offAll();
        pairOfSoMany();
        pairOfSeveral();
        capOfSoMany();
        capAt();
        takenOffStays();
        joinedAtFirst();
        leastThenFewestThenFirst();
        foundAnew();
        mostTries();
        longestRow();
        rowsTold();
        waiting();
        Due.end("BasketEdgesTest");
    }

    private static Run basket(int... prices) {
        Run run = new Run();
        for (int price : prices) {
            run.does("item " + price + " 0");
        }
        return run;
    }

    private static Run joinAll(Run run, int many) {
        for (int one = 0; one < many; one++) {
            for (int other = 0; other < one; other++) {
                run.does("join " + one + " " + other + " 1");
            }
        }
        return run;
    }

    /** An empty BASKET costs nothing by any PROMOTION. */
    private static void noBasket() {
        new Run().due("mix 1", 0).due("mixed 1 0", NONE).due("costs 0", 0).due("empty", 0).due("check", 0).due("costs 1", BAD);
        Run run = new Run("promotion 0 90 255", "promotion 1 9999 0", "promotion 2 2 255", "promotion 3 1 1");
        run.due("costs 0", 0).due("costs 1", 0).due("costs 2", 0).due("costs 3", 0).due("costs 4", 0).due("mix 4", 0).due("mixed 4 0", NONE).due("check", 0);
    }

    private static void roomOfItems() {
        Run run = basket(1, 9999);
        run.due("count 5", 2).due("costs 0", 10000).due("empty", 2).due("count 5", 0).due("costs 0", 0).due("empty", 0);
        for (int i = 1; i <= 8; i++) {
            run.due("item 9999 7", i);
        }
        run.refused("item 9999 7", VoucherHall.FULL).due("costs 0", 8 * 9999).due("empty", 8).due("item 4 0", 1).due("costs 0", 4);
    }

    /** Not 1 .. 9999 is left out, place by place, as long as there is room. */
    private static void pricesOfSheets() {
        int[][] due = {{0, 0}, {1, 1}, {-1, 0}, {9999, 1}, {10000, 0}, {32767, 0}, {-32768, 0}, {65537, 1}, {65536, 0}, {32769, 0}, {75535, 1}, {75536, 0}};
        for (int[] d : due) {
            new Run("sheet 0 1", "mark 0 0 " + d[0]).due("items 0 0", d[1]).due("count 5", d[1]).due("costs 0", d[1] == 1 ? (short) d[0] : 0);
        }
        for (int had = 0; had <= 8; had++) {
            Run run = new Run("sheet 1 4", "mark 1 0 1", "mark 1 1 10", "mark 1 3 100").times(had, "item 1000 3");
            int came = Math.min(3, 8 - had);
            run.due("items 2 1", came).due("count 5", had + came).due("costs 0", had * 1000 + new int[] {0, 1, 11, 111}[came]);
        }
        Run most = new Run("sheet 0 16");
        for (int place = 0; place < 16; place++) {
            most.does("mark 0 " + place + " " + (1 << place % 13));
        }
        most.due("items 0 0", 8).due("costs 0", 255).due("items 0 0", 0).due("costs 0", 255);
        new Run("sheet 0 0").due("items 0 0", 0).due("count 5", 0);
    }

    /** PART: a hundredths less of each ITEM, cut for each. */
    private static void partIsCut() {
        int[][] due = {{1, 90, 1}, {2, 50, 1}, {3, 50, 2}, {99, 1, 99}, {100, 1, 99}, {199, 1, 198}, {9999, 90, 1000}, {9999, 1, 9900}, {10, 90, 1}, {11, 90, 2}, {1, 1, 1}};
        for (int[] d : due) {
            basket(d[0]).does("promotion 0 " + d[1] + " 1").due("costs 1", d[2]);
        }
        basket(3, 3, 3, 3).does("promotion 0 50 1").due("costs 1", 8);
        basket(1, 1, 1, 1, 1, 1, 1, 1).does("promotion 0 90 1").due("costs 1", 8).due("mix 1", 8).due("mixed 1 0", NONE);
    }

    private static void sortsAreBits() {
        for (int sort = 0; sort <= 7; sort++) {
            for (int bit = 0; bit <= 7; bit++) {
                Run run = new Run("item 10 " + sort, "item 20 " + sort, "promotion 0 50 " + (1 << bit), "promotion 2 2 " + (1 << bit), "promotion 2 2 " + (255 - (1 << bit)));
                run.due("costs 1", sort == bit ? 15 : 30).due("costs 2", sort == bit ? 20 : 30).due("costs 3", sort == bit ? 30 : 20);
            }
            new Run("item 10 " + sort, "promotion 0 50 255", "promotion 0 50 0").due("costs 1", 5).due("costs 2", 10);
        }
    }

    /** OFF: if all cost b or more by then. */
    private static void offFrom() {
        int[][] due = {{99, 90}, {100, 90}, {101, 100}, {99999, 100}, {0, 90}};
        for (int[] d : due) {
            basket(60, 40).does("promotion 1 10 " + d[0]).due("costs 1", d[1]);
        }
        Run run = basket(60, 40).does("promotion 1 10 90", "promotion 1 10 91", "promotion 1 10 0");
        joinAll(run, 3).due("costs 31", 80).due("costs 32", 90).due("costs 23", 80).due("costs 13", 80).due("costs 12", 90).due("costs 21", 80);
    }

    /** Less, 0 at least. */
    private static void offAll() {
        int[][] due = {{99, 1}, {100, 0}, {101, 0}, {9999, 0}, {1, 99}};
        for (int[] d : due) {
            basket(60, 40).does("promotion 1 " + d[0] + " 0").due("costs 1", d[1]);
        }
        joinAll(basket(60, 40).does("promotion 1 9999 0", "promotion 1 9999 0", "promotion 1 1 1"), 3).due("costs 12", 0).due("costs 123", 0).due("costs 312", 0).due("mixed 15 1", NONE);
    }

    /** PAIR: if there are a or more. */
    private static void pairOfSoMany() {
        for (int a = 2; a <= 8; a++) {
            for (int many = 0; many <= 8; many++) {
                new Run().times(many, "item 7 4").does("promotion 2 " + a + " 16").due("costs 1", many >= a ? 7 * many - 7 : 7 * many);
            }
        }
    }

    /** The one that costs least by then, of several the first. */
    private static void pairOfSeveral() {
        Run run = new Run("item 30 0", "item 30 1", "item 40 1", "promotion 2 2 3", "promotion 0 50 1", "promotion 0 50 2");
        joinAll(run, 3).due("costs 1", 70).due("costs 12", 70).due("costs 13", 35).due("costs 21", 70).due("costs 31", 50).due("costs 213", 35);
        Run last = new Run("item 30 1", "item 40 1", "item 29 0", "promotion 2 3 3", "promotion 0 50 1").does("join 0 1 1");
        last.due("costs 1", 70).due("costs 12", 70).due("costs 21", 70);
        Run twice = new Run("item 30 0", "item 20 0", "promotion 2 2 1", "promotion 2 2 1").does("join 0 1 1").due("costs 1", 30).due("costs 12", 30);
        twice.due("mix 4", 30).due("mixed 4 0", 0).due("mixed 4 1", NONE);
    }

    /** CAP: if there are b ITEMS or more. */
    private static void capOfSoMany() {
        for (int b = 1; b <= 8; b++) {
            for (int many = 0; many <= 8; many++) {
                new Run().times(many, "item 7 4").does("promotion 3 5 " + b).due("costs 1", many >= b ? 5 : 7 * many);
            }
        }
    }

    private static void capAt() {
        int[][] due = {{99, 99}, {100, 100}, {101, 100}, {1, 1}, {99999, 100}};
        for (int[] d : due) {
            basket(60, 40).does("promotion 3 " + d[0] + " 2").due("costs 1", d[1]).due("mixed 1 0", d[1] < 100 ? 0 : NONE);
        }
    }

    /** What was taken off all stays so when ITEMS cost less then; all cost 0 at least. */
    private static void takenOffStays() {
        Run run = new Run("item 100 0", "item 50 1", "promotion 3 50 1", "promotion 0 50 1", "promotion 1 1 0", "promotion 0 51 1");
        joinAll(run, 4).due("costs 1", 50).due("costs 12", 0).due("costs 14", 0).due("costs 13", 49).due("costs 132", 0).due("costs 21", 50).due("costs 213", 49);
        Run near = joinAll(new Run("item 100 0", "promotion 3 51 1", "promotion 0 50 1", "promotion 3 50 1"), 3);
        near.due("costs 12", 1).due("costs 32", 0).due("costs 123", 1).due("costs 132", 0).due("costs 231", 50);
    }

    private static void joinedAtFirst() {
        Run run = basket(100).does("promotion 1 1 0", "promotion 1 2 0").due("costs 12", BAD).due("join 0 1 0", 0).due("costs 12", BAD).due("join 1 0 1", 0).due("costs 12", 97);
        run.due("join 0 1 1", 1).due("costs 21", 97).due("join 0 1 0", 1).due("costs 21", BAD).due("join 1 0 0", 0);
        run.does("promotion 1 4 0").due("costs 13", BAD).due("costs 31", BAD).due("join 0 2 0", 0);
    }

    private static void leastThenFewestThenFirst() {
        Run fewest = basket(100).does("promotion 1 10 0", "promotion 1 10 0", "promotion 1 20 0", "join 0 1 1");
        fewest.due("mix 5", 80).due("mixed 5 0", 2).due("mixed 5 1", NONE);
        Run first = basket(100).does("promotion 1 10 0", "promotion 1 20 0", "promotion 1 20 0").due("mix 3", 80).due("mixed 3 0", 1).due("mixed 3 1", NONE);
        first.does("join 2 0 1").due("mix 5", 70).due("mixed 5 0", 0).due("mixed 5 1", 2).does("join 0 1 1").due("mix 7", 70).due("mixed 7 0", 0).due("mixed 7 1", 1);
        basket(100).does("promotion 1 10 101", "promotion 1 10 101", "join 0 1 1").due("mix 4", 100).due("mixed 4 0", NONE).due("mix 3", SPENT);
        Run behind = basket(100).does("promotion 1 10 0", "promotion 1 20 100", "join 0 1 1").due("mix 4", 70).due("mixed 4 0", 1).due("mixed 4 1", 0);
        behind.due("mixed 4 2", NONE).due("mixed 3 0", SPENT);
    }

    /** THE MIX is found anew each time: one found earlier leaves nothing behind. */
    private static void foundAnew() {
        Run run = joinAll(basket(100, 50).does("promotion 1 10 0", "promotion 1 20 0", "promotion 2 2 1"), 3).due("mix 5000", 70).due("mixed 5000 2", 2);
        run.due("empty", 2).due("mixed 5000 0", NONE).due("check", 0).due("mix 5000", 0).does("item 9 0").due("mix 5000", 0).due("mixed 5000 0", 0).due("mixed 5000 1", NONE);
        Run less = joinAll(basket(100).does("promotion 1 10 60", "promotion 1 20 60"), 2).due("mix 4", 70).due("mixed 4 1", 1).does("empty", "item 59 0");
        less.due("mix 4", 59).due("mixed 4 0", NONE).due("check", 0).does("item 1 0").due("mix 4", 40).due("mixed 4 0", 1).due("mixed 4 1", NONE);
    }

    /** Six that all join: 1956 rows may be put, so 5000 TRIES always do. */
    private static void mostTries() {
        int[] rows = {0, 1, 4, 15, 64, 325, 1956};
        for (int many = 2; many <= 6; many++) {
            Run run = joinAll(basket(1000).times(many, "promotion 1 1 0"), many);
            run.due("mix " + rows[many], 1000 - many).due("mix " + (rows[many] - 1), SPENT).due("mixed " + rows[many] + " 0", 0).due("mixed " + (rows[many] - 1) + " 0", SPENT);
            run.due("mixed 5000 " + (many - 1), many - 1).due("mixed 5000 " + many, NONE).due("mix 5000", 1000 - many);
        }
    }

    private static void longestRow() {
        Run run = joinAll(basket(1000).does("promotion 1 1 0", "promotion 1 2 0", "promotion 1 4 0", "promotion 1 8 0", "promotion 1 16 0", "promotion 1 32 0"), 6);
        run.due("costs 123456", 937).due("costs 654321", 937).due("costs 612345", 937).due("costs 6", 968).due("costs 0", 1000);
        for (String row : new String[] {"1234561", "1234567", "7", "61234567", "123455", "112345", "1234560", "1023456", "999999", "1000000", "111111"}) {
            run.refused("costs " + row, BAD);
        }
        run.does("join 0 5 0").due("costs 123456", BAD).due("costs 12345", 969).due("costs 23456", 938);
    }

    private static int told(Run run, String... numbers) {
        for (String number : numbers) {
            run.does("tell " + number);
        }
        return run.ask("check");
    }

    /** 1 and how many stand right ahead of the first that is not, is missing, or is one too many. */
    private static void rowsTold() {
        String[] right = {"0", "99", "1", "97", "2", "93", "3", "85", "4", "69", "5", "37"};
        Run run = joinAll(basket(100).does("promotion 1 1 0", "promotion 1 2 0", "promotion 1 4 0", "promotion 1 8 0", "promotion 1 16 0", "promotion 1 32 0"), 6);
        Due.due("all rows", told(run, right), 0);
        for (int place = 0; place < right.length; place++) {
            Due.due("missing at " + place, told(run, java.util.Arrays.copyOf(right, place)), 1 + place);
            for (int by : new int[] {-1, 1, 65536, Integer.MIN_VALUE}) {
                String[] wrong = right.clone();
                wrong[place] = "" + (Integer.parseInt(right[place]) + by);
                Due.due("wrong at " + place, told(run.again(), wrong), 1 + place);
            }
        }
        String[] more = java.util.Arrays.copyOf(right, 13);
        more[12] = "0";
        Due.due("one too many", told(run.again(), more), 13);
        Due.due("none wait", told(new Run()), 0);
        Due.due("one too many of none", told(new Run(), "0"), 1);
        Due.due("0 waits, and there are none", told(new Run(), "0", "0"), 1);
    }

    private static void waiting() {
        Run run = new Run();
        for (int i = 1; i <= 20; i++) {
            run.due("tell " + -i, i);
        }
        run.refused("tell 0", VoucherHall.FULL).due("check", 1).due("count 10", 0).due("tell MIN", 1).due("tell MAX", 2).due("count 10", 2);
    }
}
