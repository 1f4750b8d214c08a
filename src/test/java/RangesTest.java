import java.util.LinkedHashSet;
import java.util.Set;
import java.util.function.Supplier;

/** Each argument's last value that is still taken and the first that is refused, on each side; what is refused changes nothing. */
final class RangesTest {
    private static final int BAD = VoucherHall.BAD, SIZE = VoucherHall.SIZE, INDEX = VoucherHall.INDEX;

    private RangesTest() {
    }

    public static void main(String[] args) {
        firms();
        days();
        begin();
        lines();
        partners();
        asking();
        tape();
        baskets();
        promotions();
        mixes();
        rows();
        exchanges();
        guesses();
        sheets();
        copies();
        Due.end("RangesTest");
    }

    /** The # of a call runs over least .. most; all else is refused. */
    private static void range(String call, int least, int most) {
        range(States::rich, call, least, most, BAD, BAD);
    }

    private static void range(Supplier<Run> state, String call, int least, int most, int below, int above) {
        state.get().taken(call.replace("#", "" + least));
        state.get().taken(call.replace("#", "" + most));
        for (int value : outside(least, most)) {
            state.get().refused(call.replace("#", "" + value), value < least ? below : above);
        }
    }

    /* Beside the neighbours: the ends of ints, and numbers that a byte or a short would take for a right one. */
    private static Set<Integer> outside(int least, int most) {
        Set<Integer> all = new LinkedHashSet<>();
        for (long value : new long[] {least - 1L, most + 1L, Integer.MIN_VALUE, Integer.MAX_VALUE, least + 256L, most - 256L, least + 65536L, most - 65536L, ~most}) {
            if (value == (int) value && (value < least || value > most)) {
                all.add((int) value);
            }
        }
        return all;
    }

    private static void firms() {
        range("shop #", 0, States.FIRMS - 1);
        range(() -> new Run("firm", "firm", "firm", "firm", "firm"), "shop #", 0, 4, BAD, BAD);
        States.fresh().refused("shop 0", BAD);
    }

    private static void days() {
        range("days #", 1, 100);
        range(() -> States.rich().times(7, "days 100").does("days 80"), "days #", 1, 100, BAD, BAD);
        range(() -> States.rich().times(7, "days 100").does("days 81"), "days #", 1, 99, BAD, BAD);
        range(() -> States.rich().times(8, "days 100").does("days 79"), "days #", 1, 1, BAD, BAD);
        States.rich().times(8, "days 100").due("days 80", 900).refused("days 1", BAD).refused("days 100", BAD).refused("days 0", BAD);
    }

    private static void begin() {
        for (int kind = -45; kind <= 55; kind++) {
            boolean right = kind >= 0 && kind / 10 <= 3 && kind % 10 <= 2;
            String call = "begin " + kind + " 0 1 1 1 0";
            Run run = States.rich();
            if (right) {
                run.due(call, States.LINES).due("isOf " + States.VOUCHERS + " " + kind / 10, 1);
            } else {
                run.refused(call, BAD);
            }
        }
        range("begin # 0 1 1 1 0", 30, 32);
        range("begin 0 # 1 1 1 0", 0, States.FIRMS - 1);
        range("begin 0 0 # 1 1 0", 0, 9999);
        range("begin 0 0 1 # 1 0", 1, 900);
        range("begin 0 0 1 1 # 0", 0, 100000);
        range("begin 0 0 1 1 1 #", 0, States.TODAY);
        range(() -> new Run("firm"), "begin 0 0 1 1 1 #", 0, 0, BAD, BAD);
    }

    private static void lines() {
        for (String call : new String[] {"spend # 0 1 0", "load # 1 0", "back # 0 1 0", "lose # NONE 0", "isOf # 0", "stands # 20 20 0", "fall # 5"}) {
            range(call.startsWith("stands") || call.startsWith("fall") ? States::rich : RangesTest::manyShops, call, 0, States.VOUCHERS - 1, BAD, BAD);
            new Run("firm", "shop 0").refused(call.replace("#", "0"), BAD);
        }
        for (String call : new String[] {"spend 0 0 # 0", "load 0 # 0", "split 0 1 # 0", "back 0 0 # 0"}) {
            range(call, 1, 100000);
        }
        for (String call : new String[] {"spend 0 0 1 #", "load 0 1 #", "split 0 1 1 #", "back 0 0 1 #", "lose 0 1 #", "lose 0 NONE #"}) {
            range(call, 0, States.TODAY);
            range(() -> new Run("firm", "shop 0", "begin 0 0 1 1 1 0", "begin 0 0 1 1 1 0"), call, 0, 0, BAD, BAD);
        }
        range("withdraw #", 0, States.LINES - 1);
        range("line # 0", 0, States.LINES - 1);
        range("line 3 #", 0, 6);
        States.fresh().refused("withdraw 0", BAD).refused("line 0 0", BAD);
    }

    private static Run manyShops() {
        return States.rich().times(7, "shop 0");
    }

    private static void partners() {
        for (String call : new String[] {"spend 0 # 1 0", "back 0 # 1 0", "guess 1 #", "barred #"}) {
            range(call, 0, States.SHOPS - 1);
            range(RangesTest::manyShops, call, 0, 9, BAD, BAD);
            new Run("firm", "begin 0 0 1 1 1 0").refused(call.replace("#", "0"), BAD);
        }
        for (String call : new String[] {"split # 0 1 0", "split 0 # 1 0", "lose # 0 0", "lose 0 # 0"}) {
            range(() -> call.equals("lose 0 # 0") ? States.rich() : manyShops(), call, 1, States.VOUCHERS - 1, BAD, BAD);
        }
        for (String call : new String[] {"split # 5 1 0", "split 5 # 1 0", "lose # 5 0", "lose 5 # 0"}) {
            range(call, 0, States.VOUCHERS - 2);
        }
        int none = VoucherHall.NONE;
        States.rich().refused("lose 0 " + (none - 1), BAD).refused("lose 0 " + (none + 1), BAD).refused("lose NONE NONE 0", BAD);
        States.rich().refused("lose NONE 0 0", BAD).refused("split 0 NONE 1 0", BAD).refused("split NONE NONE 1 0", BAD).due("lose 0 NONE 0", States.LINES);
    }

    private static void asking() {
        range("isOf 0 #", 0, 3);
        range("stands 0 20 20 #", 0, 4);
        for (String call : new String[] {"stands 0 # 20 0", "stands 0 20 # 0", "idle # 0", "idle 0 #", "owes 0 1 # 0", "owes 0 1 0 #", "gain 0 # 0", "gain 0 0 #"}) {
            range(call, 0, 900);
        }
        for (String call : new String[] {"owes # 0 0 0", "owes 0 # 0 0", "gain # 0 0"}) {
            range(call, 0, States.FIRMS - 1);
            States.fresh().refused(call.replace("#", "0"), BAD);
        }
        range("fall 0 #", 0, 1000000);
        range("count #", 0, 11);
    }

    private static void tape() {
        range("trim #", 0, States.TAPE);
        range(States::full, "trim #", 0, 96, BAD, BAD);
        range(States::fresh, "trim #", 0, 0, BAD, BAD);
        for (int land = 0; land <= 2; land++) {
            States.rich().due("law " + land, 9);
        }
        for (int land : outside(0, 2)) {
            States.rich().like("law " + land, BAD, "trim 0");
            States.fresh().like("law " + land, BAD, "trim 0");
        }
    }

    private static void baskets() {
        range("item # 0", 1, 9999);
        range("item 1 #", 0, 7);
        range("items # 0", 0, 7);
        range(States::sheets, "items 0 #", 0, 1, BAD, BAD);
    }

    private static void promotions() {
        range("promotion # 2 8", 0, 3);
        range("promotion 0 # 1", 1, 90);
        range("promotion 0 1 #", 0, 255);
        range("promotion 1 # 1", 1, 9999);
        range("promotion 1 1 #", 0, 99999);
        range("promotion 2 # 1", 2, 8);
        range("promotion 2 2 #", 0, 255);
        range("promotion 3 # 1", 1, 99999);
        range("promotion 3 1 #", 1, 8);
        range("join # 0 1", 1, States.PROMOTIONS - 1);
        range("join 0 # 1", 1, States.PROMOTIONS - 1);
        range("join # 2 1", 0, States.PROMOTIONS - 2);
        range("join 2 # 0", 0, States.PROMOTIONS - 2);
        range("join 0 1 #", 0, 1);
        range(() -> States.rich().times(3, "promotion 1 1 1"), "join # 5 1", 0, 4, BAD, BAD);
        States.fresh().refused("join 0 1 1", BAD).refused("join 0 0 1", BAD);
    }

    private static void mixes() {
        range(States::fresh, "mix #", 1, 5000, BAD, BAD);
        range(States::fresh, "mixed # 0", 1, 5000, BAD, BAD);
        range("mixed 5000 #", 0, Integer.MAX_VALUE);
        States.rich().refused("mix 0", BAD).refused("mix -1", BAD).refused("mix 5001", BAD).refused("mixed 0 0", BAD).refused("mixed 5001 0", BAD);
    }

    private static void rows() {
        range("costs #", 0, States.PROMOTIONS);
        range(() -> States.rich().times(3, "promotion 1 1 1"), "costs #", 0, 6, BAD, BAD);
        range(States::fresh, "costs #", 0, 0, BAD, BAD);
        String[] none = {"4", "10", "14", "41", "102", "11", "22", "121", "23", "32", "123", "321", "231", "1000000", "10000012", "1000000012", "2147483647", "-12"};
        for (String row : none) {
            States.rich().refused("costs " + row, BAD);
        }
        States.rich().due("costs 12", 180).due("costs 21", 180).due("costs 13", 150).due("costs 31", 150);
    }

    private static void exchanges() {
        for (String call : new String[] {"exchange # 0 1 1", "exchange 0 # 1 1"}) {
            range(call, 1, 5);
        }
        for (String call : new String[] {"exchange # 5 1 1", "exchange 5 # 1 1"}) {
            range(call, 0, 4);
        }
        for (int form = 0; form <= 5; form++) {
            States.rich().refused("exchange " + form + " " + form + " 1 1", BAD);
        }
        range("exchange 0 1 # 1", 1, 999);
        range("exchange 0 1 1 #", 1, 999);
        range("hole 0 #", 0, Integer.MAX_VALUE);
        range(() -> States.rich().does("exchange 4 5 2 1", "exchange 5 4 1 1"), "hole 5 #", 0, Integer.MAX_VALUE, BAD, BAD);
        for (int form : outside(0, 5)) {
            States.rich().refused("hole " + form + " 0", BAD).refused("hole " + form + " -1", BAD);
        }
    }

    private static void guesses() {
        range(() -> States.rich().does("tries 9"), "guess # 1", 0, 9999, BAD, BAD);
        range("tries #", 0, 9);
    }

    private static void sheets() {
        range("sheet # 4", 0, 1);
        range(States::rich, "sheet 0 #", 0, 16, SIZE, BAD);
        range(States::rich, "sheet 1 #", 0, 16, SIZE, BAD);
        range(States::sheets, "mark # 0 9", 0, 1, BAD, BAD);
        range(States::rich, "mark 0 # 9", 0, States.PLACES - 1, INDEX, INDEX);
        range(States::full, "mark 0 # 9", 0, 15, INDEX, INDEX);
        range(() -> States.rich().does("sheet 1 1"), "mark 1 # 9", 0, 0, INDEX, INDEX);
        States.rich().does("sheet 1 0").refused("mark 1 0 1", INDEX).refused("mark 1 -1 1", INDEX);
        int was = 7;
        for (int v : new int[] {0, 1, 32767, 32768, 65535, 65536, -1, -32768, -32769, Integer.MIN_VALUE, Integer.MAX_VALUE}) {
            States.rich().due("mark 0 0 " + v, was).due("mark 0 0 0", (short) v);
        }
    }

    private static void copies() {
        range(States::sheets, "copy # 0 1 0 1", 0, 1, BAD, BAD);
        range(States::sheets, "copy 0 0 # 0 1", 0, 1, BAD, BAD);
        range(States::sheets, "copy 0 # 1 0 2", 0, 3, INDEX, INDEX);
        range(States::sheets, "copy 0 # 1 0 0", 0, 5, INDEX, INDEX);
        range(States::sheets, "copy 0 0 1 # 2", 0, 1, INDEX, INDEX);
        range(States::sheets, "copy 0 0 1 # 0", 0, 3, INDEX, INDEX);
        range(States::sheets, "copy 0 0 1 0 #", 0, 3, INDEX, INDEX);
        range(States::sheets, "copy 0 2 1 1 #", 0, 2, INDEX, INDEX);
        range(States::sheets, "copy 0 4 1 0 #", 0, 1, INDEX, INDEX);
        range(States::sheets, "copy 1 0 0 4 #", 0, 1, INDEX, INDEX);
        range(States::sheets, "copy 0 0 0 0 #", 0, 5, INDEX, INDEX);
        range(States::full, "copy 0 0 1 0 #", 0, 16, INDEX, INDEX);
        States.sheets().does("sheet 1 0").due("copy 0 5 1 0 0", 0).due("copy 1 0 0 5 0", 0).refused("copy 0 0 1 0 1", INDEX).refused("copy 1 0 0 0 1", INDEX);
    }
}
