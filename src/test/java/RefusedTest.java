import java.util.function.Supplier;

/** Refusals that are no matter of one argument's range: what is full, what stands first of several; each changes nothing. */
final class RefusedTest {
    private static final int BAD = VoucherHall.BAD, NO = VoucherHall.NO, FULL = VoucherHall.FULL, SPENT = VoucherHall.SPENT, NONE = VoucherHall.NONE;
    private static final int NOTHING = VoucherHall.NOTHING, INDEX = VoucherHall.INDEX, SIZE = VoucherHall.SIZE;

    private RefusedTest() {
    }

    public static void main(String[] args) {
        states();
        lastAndFirst();
        fullLines();
        fullVouchers();
        fullOfAll();
        fullTape();
        badAheadOfFull();
        badAheadOfNo();
        notLive();
        withdrawn();
        laws();
        spent();
        holes();
        guesses();
        waiting();
        sheets();
        Due.end("RefusedTest");
    }

    /** The states are what the other tests take them for. */
    private static void states() {
        States.rich().due("count 0", States.FIRMS).due("count 1", States.SHOPS).due("count 2", States.VOUCHERS).due("count 3", States.LINES)
            .due("count 4", 2).due("count 5", 4).due("count 6", States.PROMOTIONS).due("count 7", 3).due("count 8", 4).due("count 9", States.TODAY)
            .due("count 10", 4).due("count 11", States.TAPE).due("idle 20 20", 1).due("check", 0).due("barred 0", 1)
            .due("hole 0 0", 0).due("stands " + States.ENDED + " 20 20 1", 1).due("law 1", 9).due("stands " + States.LOST + " 20 20 0", NO).due("tries 3", 2);
        int[] due = {5, 10, 30, 100, 0, 8, 6, 16, 60, 900, 20, 96};
        Run full = States.full();
        for (int what = 0; what < due.length; what++) {
            full.due("count " + what, due[what]);
        }
        full.due("hole 2 0", 0).due("hole 2 1", 15).due("law 0", 18).due("check", 1);
    }

    /** The last one that there is room for, and the first that there is none for. */
    private static void lastAndFirst() {
        fills(States::fresh, "firm", 5, 0);
        fills(() -> new Run("firm"), "shop 0", 10, 0);
        fills(States::fresh, "item 1 0", 8, 1);
        fills(States::fresh, "promotion 1 1 0", 6, 0);
        fills(States::fresh, "tell 0", 20, 1);
        fills(States::fresh, "exchange 0 1 1 1", 16, 0);
        fills(() -> new Run("firm", "shop 0"), "begin 0 0 0 1 0 0", 30, 0);
    }

    private static void fills(Supplier<Run> state, String call, int many, int first) {
        Run run = state.get();
        for (int i = 0; i < many; i++) {
            run.due(call, i + first);
        }
        run.refused(call, FULL);
    }

    /** 100 LINES of every KIND: the hundredth is taken, the next is refused. */
    private static void fullLines() {
        for (String call : new String[] {"spend 0 0 1 0", "load 0 1 0", "split 0 1 1 0", "back 0 0 1 0", "lose 0 1 0", "lose 0 NONE 0", "begin 0 0 0 1 0 0"}) {
            Run run = new Run("firm", "shop 0", "begin 10 0 0 1 50 0", "begin 10 0 0 1 50 0").times(97, "load 1 1 0");
            run.due(call, 99).refused(call, FULL).due("count 3", 100).due("line 99 1", call.startsWith("begin") ? 2 : 0).due("line 100 0", BAD);
        }
    }

    /** FULL by VOUCHERS with room for LINES, by LINES with room for VOUCHERS, by both. */
    private static void fullVouchers() {
        Run thirty = new Run("firm").times(30, "begin 0 0 0 1 0 0");
        thirty.refused("begin 0 0 0 1 0 0", FULL).due("load 29 1 0", 30).refused("load 30 1 0", BAD);
        Run hundred = new Run("firm").times(29, "begin 0 0 0 1 0 0").times(71, "load 0 1 0");
        hundred.refused("begin 0 0 0 1 0 0", FULL).due("count 2", 29);
        new Run("firm").times(29, "begin 0 0 0 1 0 0").times(70, "load 0 1 0").due("begin 0 0 0 1 0 0", 99).due("count 2", 30).refused("begin 0 0 0 1 0 0", FULL);
    }

    private static void fullOfAll() {
        for (String call : new String[] {"firm", "shop 0", "shop 4", "begin 0 0 0 1 0 900", "spend 0 0 1 900", "load 1 1 0", "split 0 5 1 0", "back 0 0 1 0",
            "lose 0 NONE 0", "lose 0 29 0", "feed 0 0 0", "feed 1 -1 7", "item 1 0", "promotion 0 1 1", "tell 0", "exchange 0 1 1 1", "guess 0 0", "guess 9999 4"}) {
            States.full().refused(call, FULL);
        }
        States.full().due("items 0 0", 0).due("empty", 8).due("item 1 0", 1);
    }

    private static void fullTape() {
        for (int size = 0; size <= 96; size++) {
            Run run = new Run().times(8, "feed 1 2 3").does("trim " + size);
            if (size <= 84) {
                run.due("feed 4 5 6", size + 12);
            } else {
                run.due("feed 4 5 6", FULL).due("count 11", size);
            }
        }
        States.full().does("trim 85").refused("feed 0 0 0", FULL);
        States.rich().due("feed 0 0 0", States.TAPE + 12);
    }

    private static void badAheadOfFull() {
        for (String call : new String[] {"shop 5", "shop -1", "begin 3 0 0 1 0 0", "begin 0 5 0 1 0 0", "begin 0 0 10000 1 0 0", "begin 0 0 0 0 0 0", "begin 0 0 0 1 -1 0",
            "begin 0 0 0 1 0 901", "spend 30 0 1 0", "spend 0 10 1 0", "spend 0 0 0 0", "spend 0 0 1 901", "load 30 1 0", "load 0 0 0", "load 0 1 -1", "split 0 0 1 0",
            "split 0 30 1 0", "split 0 5 100001 0", "back 0 10 1 0", "back 0 0 0 0", "lose 0 0 0", "lose 0 30 0", "lose 0 NONE 901", "item 0 0", "item 1 8",
            "promotion 4 1 1", "promotion 0 91 1", "exchange 0 0 1 1", "exchange 0 1 1000 1", "guess 10000 0", "guess 0 10", "days 1", "items 8 0", "items 0 2"}) {
            States.full().refused(call, BAD);
        }
    }

    private static void badAheadOfNo() {
        String lost = "" + States.LOST;
        for (String call : new String[] {"stands " + lost + " 20 20 5", "stands " + lost + " 20 20 -1", "stands " + lost + " 901 20 0", "stands " + lost + " 20 901 0",
            "fall " + lost + " -1", "fall " + lost + " 1000001", "fall " + States.ENDED + " 1000001", "hole 6 0", "hole 3 -1", "hole 0 -1"}) {
            States.rich().refused(call, BAD);
        }
        States.rich().due("stands " + lost + " 20 20 4", NO).due("fall " + lost + " 1000000", NO).due("hole 3 0", NO);
    }

    /** NO of a VOUCHER that is not LIVE yet, not KNOWN yet, LOST, WITHDRAWN, or ENDED. */
    private static void notLive() {
        for (int what = 0; what <= 4; what++) {
            Run run = States.rich().refused("stands " + States.LOST + " 20 20 " + what, NO).refused("stands " + States.LOST + " 15 15 " + what, NO);
            run.refused("stands " + States.LOST + " 11 20 " + what, NO).refused("stands 2 9 20 " + what, NO).refused("stands 2 20 14 " + what, NO);
            States.rich().does("withdraw 3").refused("stands 2 20 20 " + what, NO).taken("stands 2 20 19 " + what);
        }
        States.rich().refused("fall " + States.LOST + " 1", NO).refused("fall " + States.ENDED + " 1", NO).refused("fall " + States.ENDED + " 0", NO);
        States.rich().does("withdraw 3").refused("fall 2 0", NO);
    }

    private static void withdrawn() {
        States.rich().refused("withdraw 7", NO).does("days 1").refused("withdraw 9", NO).due("line 9 4", States.TODAY);
        States.rich().does("withdraw 0").refused("withdraw 0", NO).refused("withdraw " + States.LINES, BAD).due("withdraw 1", 1).due("count 4", 4);
    }

    /** A TEXT with a fault changes nothing but the tape, which is used up; so does a wrong LAND, which is asked first. */
    private static void laws() {
        States.rich().does("trim 32").like("law 0", -132, "trim 0");
        States.rich().does("trim 0").like("law 0", -100, "trim 0");
        States.rich().does("trim 32").like("law 3", BAD, "trim 0");
        States.rich().does("trim 0").like("law -1", BAD, "trim 0");
        States.full().like("law 3", BAD, "trim 0").like("law 3", BAD);
        States.full().does("trim 95").like("law 0", -195, "trim 0");
    }

    /** SPENT: one TRY fewer than there are; the sum of rows that may be put. */
    private static void spent() {
        States.rich().due("mix 7", 150).refused("mix 6", SPENT).refused("mix 1", SPENT).due("mixed 7 0", 0).due("mixed 7 1", 2).due("mixed 7 2", NONE);
        States.rich().refused("mixed 6 0", SPENT).refused("mixed 6 2", SPENT).refused("mixed 6 9", SPENT).refused("mixed 6 -1", BAD).refused("mixed 0 -1", BAD);
        new Run("item 5 0").due("mix 1", 5).due("mixed 1 0", NONE).does("promotion 1 1 0").due("mix 1", 4).does("promotion 1 2 0").refused("mix 1", SPENT).due("mix 2", 3);
    }

    private static void holes() {
        States.rich().due("hole 0 0", 0).due("hole 0 1", 1).refused("hole 0 2", NONE).refused("hole 0 2147483647", NONE).refused("hole 2 0", NO).refused("hole 2 9", NO);
        States.fresh().refused("hole 0 0", NO).refused("hole 0 5", NO).refused("hole 0 -1", BAD).refused("hole 6 0", BAD);
    }

    /** NO counts as a guess that is told, as a NEAR one does, and not as WILD. */
    private static void guesses() {
        States.rich().like("guess 1234 0", NO, "guess 1235 0").like("guess 77 0", NO, "guess 1235 0").due("guess 1234 1", 2);
        Run run = new Run("firm", "shop 0", "begin 0 0 1234 1 0 0", "tries 0", "guess 0 0").times(58, "guess 1235 0");
        run.due("count 8", 59).due("guess 1234 0", NO).due("count 8", 60).refused("guess 1234 0", FULL).refused("guess 1235 0", FULL).refused("guess 0 0", FULL);
        run.refused("guess -1 0", BAD).refused("guess 1234 1", BAD);
    }

    /** The numbers that wait are gone whatever check answers. */
    private static void waiting() {
        States.rich().due("check", 0).due("count 10", 0).due("check", 1).due("count 10", 0);
        States.rich().does("tell 0").due("check", 5).due("count 10", 0).due("tell 9", 1);
        States.full().refused("tell 0", FULL).due("check", 1).due("tell 0", 1);
    }

    private static void sheets() {
        States.rich().refused("sheet 2 -1", BAD).refused("sheet -1 -1", BAD).refused("sheet 2 17", BAD).refused("sheet 0 17", BAD).refused("sheet 0 -1", SIZE);
        States.rich().refused("mark 1 0 1", NOTHING).refused("mark 1 -1 1", NOTHING).refused("mark 1 99 1", NOTHING).refused("mark 2 99 1", BAD).refused("mark 0 5 1", INDEX);
        States.rich().refused("items 0 1", NOTHING).refused("items 8 1", BAD).refused("items -1 1", BAD).refused("items 0 2", BAD);
        States.full().does("sheet 0 0").due("items 0 0", 0);
        States.rich().refused("copy 0 0 1 0 1", NOTHING).refused("copy 1 0 0 0 1", NOTHING).refused("copy 1 0 1 0 0", NOTHING).refused("copy 0 9 1 0 1", NOTHING);
        States.rich().refused("copy 1 0 0 9 -1", NOTHING).refused("copy 0 0 2 0 1", BAD).refused("copy 1 0 2 0 1", BAD).refused("copy 2 0 1 0 1", BAD);
        States.sheets().refused("copy 0 9 2 0 1", BAD).refused("copy -1 0 0 -1 -1", BAD).refused("copy 0 0 1 0 -1", INDEX).refused("copy 0 3 1 0 3", INDEX);
        States.sheets().refused("copy 0 MAX 1 0 MAX", INDEX).refused("copy 0 1 1 0 MAX", INDEX).refused("copy 0 0 1 MAX 1", INDEX).refused("copy 0 0 0 0 MIN", INDEX);
        States.sheets().refused("copy 0 MIN 1 0 MIN", INDEX).refused("copy 0 6 1 0 -1", INDEX).refused("copy 0 5 1 3 1", INDEX).due("copy 0 5 1 3 0", 0);
    }
}
