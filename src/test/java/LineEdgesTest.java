/** The edges that the document names of how vouchers stand, of settling and of a fall. */
final class LineEdgesTest {
    private static final int NO = VoucherHall.NO, NONE = VoucherHall.NONE, BAD = VoucherHall.BAD;

    private LineEdgesTest() {
    }

    public static void main(String[] args) {
        kinds();
        ofLines();
        told();
        withdrawn();
        about();
        lastDay();
        oneDayByNumbers();
        liveYet();
        liveAnyMore();
        endedOnTheDay();
        endedButLoaded();
        lifeByThen();
        shortOfWorth();
        loadedFull();
        splitFull();
        returnedFull();
        lostFull();
        otherFirm();
        otherNotLive();
        terms();
        owesFar();
        fallByCoin();
        fallLeftOver();
        fallOfWhom();
        Due.end("LineEdgesTest");
    }

    /** All are NOTES, a PROMISE is a GIFT, and nothing else is another one. */
    private static void kinds() {
        String[] due = {"1000", "1100", "1010", "1011"};
        for (int kind = 0; kind <= 3; kind++) {
            for (int land = 0; land <= 2; land++) {
                Run run = new Run("firm", "begin " + (10 * kind + land) + " 0 0 1 0 0");
                for (int asked = 0; asked <= 3; asked++) {
                    run.due("isOf 0 " + asked, due[kind].charAt(asked) - '0');
                }
                run.due("isOf 0 -1", BAD).due("isOf 0 4", BAD).due("isOf 1 0", BAD);
            }
        }
    }

    /** What a LINE has none of: a sum is 0, all else NONE. */
    private static void ofLines() {
        Run run = new Run("firm", "shop 0", "days 9", "begin 10 0 0 1 100000 0", "begin 10 0 0 1 0 9", "spend 1 0 100000 8", "load 1 1 7", "split 1 0 2 6", "back 1 0 3 5", "lose 1 0 4",
            "lose 0 NONE 3", "days 1", "withdraw 6");
        int[][] due = {{0, 0, 0, 9, NONE, 100000, NONE}, {0, 1, 9, 9, NONE, 0, NONE}, {1, 1, 8, 9, NONE, 100000, 0}, {2, 1, 7, 9, NONE, 1, NONE}, {3, 1, 6, 9, NONE, 2, 0},
            {4, 1, 5, 9, NONE, 3, 0}, {5, 1, 4, 9, 10, 0, 0}, {5, 0, 3, 9, NONE, 0, NONE}};
        for (int line = 0; line < due.length; line++) {
            for (int what = 0; what <= 6; what++) {
                run.due("line " + line + " " + what, due[line][what]);
            }
        }
    }

    /** KNOWN on a DAY: TOLD on it or ahead of it. */
    private static void told() {
        Run run = new Run("firm", "shop 0", "days 10", "begin 10 0 0 900 50 0", "days 5", "spend 0 0 1 3");
        run.due("stands 0 900 9 0", NO).due("stands 0 900 10 0", 50).due("stands 0 900 14 0", 50).due("stands 0 900 15 0", 49).due("stands 0 900 900 0", 49);
        run.due("line 0 3", 10).due("line 1 3", 15).due("owes 0 0 900 15", 0).due("stands 0 0 9 3", NO).due("stands 0 0 10 3", 0);
    }

    /** Not WITHDRAWN on it or ahead of it. */
    private static void withdrawn() {
        Run run = new Run("firm", "shop 0", "begin 10 0 0 900 50 0", "days 5", "spend 0 0 1 3", "days 5", "withdraw 1");
        run.due("stands 0 900 4 0", 50).due("stands 0 900 5 0", 49).due("stands 0 900 9 0", 49).due("stands 0 900 10 0", 50).due("stands 0 900 900 0", 50);
        run.due("line 1 4", 10).due("line 0 4", NONE);
        run.does("spend 0 0 51 0", "withdraw 2").due("idle 900 9", 0).due("idle 900 10", 0).due("idle 900 11", 0).due("line 2 3", 10).due("line 2 4", 10);
        run.does("withdraw 0").due("stands 0 900 9 0", 49).due("stands 0 900 10 0", NO).due("count 4", 3).due("count 3", 3).due("count 2", 1);
    }

    /** About the DAY or earlier ones. */
    private static void about() {
        Run run = new Run("firm", "shop 0", "days 20", "begin 10 0 0 900 50 5", "spend 0 0 1 7", "load 0 3 9");
        run.due("stands 0 4 20 0", NO).due("stands 0 5 20 0", 50).due("stands 0 6 20 0", 50).due("stands 0 7 20 0", 49).due("stands 0 8 20 3", 5);
        run.due("stands 0 8 20 0", 49).due("stands 0 9 20 0", 52).due("stands 0 9 20 3", 9);
        run.does("spend 0 0 60 9").due("idle 8 20", 0).due("idle 9 20", 1).due("owes 0 0 9 20", 0);
    }

    private static void lastDay() {
        Run run = new Run("firm", "firm", "shop 1").times(9, "days 100").does("begin 10 0 0 1 50 900", "spend 0 0 4 900");
        run.due("stands 0 900 899 0", NO).due("stands 0 899 900 0", NO).due("stands 0 900 900 0", 46).due("stands 0 900 900 1", 0).due("owes 0 1 900 900", 4);
        run.due("owes 0 1 899 900", 0).due("owes 0 1 900 899", 0).due("withdraw 1", 1).due("stands 0 900 900 0", 50).due("line 1 4", 900).due("fall 0 7", 7);
        Run first = new Run("firm", "firm", "shop 1", "begin 0 0 0 900 50 0", "spend 0 0 4 0");
        first.due("stands 0 0 0 0", 46).due("stands 0 900 0 1", 0).due("owes 0 1 0 0", 4).due("gain 0 900 900", 0).due("idle 0 0", 0);
    }

    /** Of one DAY by numbers, whatever DAY they were told on; else by the DAYS that they are about. */
    private static void oneDayByNumbers() {
        Run run = new Run("firm", "shop 0", "begin 10 0 0 900 10 0", "days 1", "spend 0 0 11 1", "load 0 1 1", "spend 0 0 11 1");
        run.due("stands 0 1 1 0", 0).due("idle 1 1", 1);
        run.does("load 0 5 0").due("stands 0 1 1 0", 5).due("idle 1 1", 1).does("days 1", "load 0 5 1").due("stands 0 1 2 0", 10);
        run.does("withdraw 1").due("stands 0 1 2 0", 10).due("idle 1 2", 0).due("idle 1 1", 1);
    }

    private static void liveYet() {
        for (String call : new String[] {"spend 0 0 1 #", "load 0 1 #", "split 0 1 1 #", "back 0 0 1 #", "lose 0 1 #"}) {
            Run run = new Run("firm", "shop 0", "days 9", "begin 10 0 0 900 50 5", "begin 10 0 0 900 50 0");
            run.does(call.replace("#", "4")).due("idle 9 9", 1).due("stands 0 9 9 0", 50).due("stands 1 9 9 0", 50);
            run.does(call.replace("#", "5")).due("idle 9 9", 1).due("idle 4 9", 1).due("idle 3 9", 0);
            Due.holds(call + " brings something on the DAY of BEGIN", run.ask("stands 0 9 9 0") != 50);
        }
    }

    /* A LOSE of the same DAY is ahead of what was told behind it, and behind what was told ahead of it. */
    private static void liveAnyMore() {
        for (String call : new String[] {"spend 0 0 1 5", "load 0 1 5", "split 0 1 1 5", "back 0 0 1 5", "lose 0 NONE 5"}) {
            Run run = new Run("firm", "shop 0", "days 9", "begin 10 0 0 900 50 5", "begin 10 0 0 900 50 0", call, "lose 0 1 5", call);
            run.due("idle 9 9", call.startsWith("lose") ? 2 : 1).due("stands 0 5 9 0", NO).due("stands 0 4 9 0", NO).due("stands 0 9 9 0", NO);
        }
        Run run = new Run("firm", "shop 0", "days 9", "begin 10 0 0 900 50 5", "lose 0 NONE 7", "spend 0 0 1 6");
        run.due("idle 9 9", 0).due("stands 0 6 9 0", 49).due("stands 0 7 9 0", NO).does("withdraw 1").due("stands 0 7 8 0", NO).due("stands 0 7 9 0", 49);
    }

    /** SPEND and SPLIT bring nothing of one that is ENDED on the DAY of the LINE: more than LIFE behind FROM. */
    private static void endedOnTheDay() {
        for (String call : new String[] {"spend 0 0 1 #", "split 0 1 1 #"}) {
            Run run = new Run("firm", "shop 0", "days 100", "begin 10 0 0 7 50 20", "begin 0 0 0 1 50 0");
            run.does(call.replace("#", "28")).due("stands 0 100 100 0", 50).due("idle 100 100", 1).due("idle 27 100", 0);
            run.does(call.replace("#", "27")).due("stands 0 100 100 0", 49).due("idle 100 100", 1).due("stands 0 27 100 1", 0).due("stands 0 28 100 1", 1);
            run.law(0, "end 8 change 0 gain 0").due("stands 0 100 100 0", 48).due("idle 100 100", 0).due("stands 0 28 100 1", 0).due("stands 0 29 100 1", 1);
        }
    }

    /** LOAD, RETURN and LOSE bring something of an ENDED one; a LOAD makes it last anew. */
    private static void endedButLoaded() {
        Run run = new Run("firm", "shop 0", "days 100", "begin 10 0 0 7 50 20", "begin 0 0 0 900 50 0", "load 0 5 60", "spend 0 0 1 67", "spend 0 0 1 68");
        run.due("idle 100 100", 1).due("stands 0 100 100 0", 54).due("stands 0 100 100 3", 60).due("stands 0 67 100 1", 0).due("stands 0 68 100 1", 1);
        run.does("back 0 0 6 90").due("stands 0 100 100 0", 60).due("stands 0 100 100 3", 60).due("stands 0 100 100 1", 1);
        run.does("split 1 0 2 91").due("stands 0 100 100 0", 62).does("lose 0 1 100").due("stands 1 100 100 0", 110).due("idle 100 100", 1);
    }

    /** What E of end gives, with w as it is by then. */
    private static void lifeByThen() {
        Run run = new Run("firm", "shop 0", "days 50", "begin 0 0 0 1 10 0").law(0, "end w change 0 gain 0");
        run.does("spend 0 0 1 11").due("idle 50 50", 1).does("spend 0 0 1 10").due("idle 50 50", 1).due("stands 0 50 50 0", 9).due("stands 0 9 50 2", 10);
        run.due("stands 0 10 50 2", 9).due("stands 0 10 50 1", 1).due("stands 0 9 50 1", 0).does("spend 0 0 1 10").due("idle 50 50", 2);
        run.does("spend 0 0 1 0").due("idle 50 50", 3).due("stands 0 50 50 0", 9).due("stands 0 9 50 1", 0).due("stands 0 10 50 1", 1);
    }

    private static void shortOfWorth() {
        for (String call : new String[] {"spend 0 0 # 0", "split 0 1 # 0"}) {
            new Run("firm", "shop 0", "begin 0 0 0 1 100000 0", "begin 0 0 0 1 0 0").does(call.replace("#", "100000")).due("idle 0 0", 0).due("stands 0 0 0 0", 0);
            new Run("firm", "shop 0", "begin 0 0 0 1 99999 0", "begin 0 0 0 1 0 0").does(call.replace("#", "100000")).due("idle 0 0", 1).due("stands 0 0 0 0", 99999);
            new Run("firm", "shop 0", "begin 0 0 0 1 0 0", "begin 0 0 0 1 0 0").does(call.replace("#", "1")).due("idle 0 0", 1).due("stands 0 0 0 0", 0);
            new Run("firm", "shop 0", "begin 0 0 0 1 1 0", "begin 0 0 0 1 0 0").does(call.replace("#", "1"), call.replace("#", "1")).due("idle 0 0", 1);
        }
    }

    /** LOAD: no more than 100000, else it brings nothing, and FROM stays; of CARDS alone. */
    private static void loadedFull() {
        int[][] worthAndSum = {{0, 100000, 100000}, {1, 100000, 1}, {99999, 1, 100000}, {100000, 1, 100000}, {50000, 50000, 100000}, {50000, 50001, 50000}};
        for (int[] w : worthAndSum) {
            Run run = new Run("firm", "days 9", "begin 10 0 0 1 " + w[0] + " 3", "load 0 " + w[1] + " 8").due("stands 0 9 9 0", w[2]);
            run.due("stands 0 9 9 3", w[2] == w[0] ? 3 : 8).due("idle 9 9", w[2] == w[0] ? 1 : 0);
        }
        for (int kind = 0; kind <= 3; kind++) {
            new Run("firm", "begin " + 10 * kind + " 0 0 1 0 0", "load 0 1 0").due("stands 0 0 0 0", kind == 1 ? 1 : 0).due("idle 0 0", kind == 1 ? 0 : 1);
        }
    }

    private static void splitFull() {
        int[][] otherAndSum = {{0, 100000, 1}, {1, 100000, 0}, {99999, 1, 1}, {100000, 1, 0}, {40000, 60000, 1}, {40000, 60001, 0}};
        for (int[] o : otherAndSum) {
            Run run = new Run("firm", "begin 0 0 0 1 100000 0", "begin 0 0 0 1 " + o[0] + " 0", "split 0 1 " + o[1] + " 0").due("idle 0 0", 1 - o[2]);
            run.due("stands 0 0 0 0", 100000 - o[1] * o[2]).due("stands 1 0 0 0", o[0] + o[1] * o[2]);
        }
    }

    private static void returnedFull() {
        int[][] worthAndSum = {{0, 100000, 1}, {1, 100000, 0}, {99999, 1, 1}, {100000, 1, 0}, {40000, 60000, 1}, {40000, 60001, 0}};
        for (int[] w : worthAndSum) {
            Run run = new Run("firm", "firm", "shop 1", "begin 30 0 0 1 " + w[0] + " 0", "back 0 0 " + w[1] + " 0").due("idle 0 0", 1 - w[2]);
            run.due("stands 0 0 0 0", w[0] + w[1] * w[2]).due("owes 0 1 0 0", -w[1] * w[2]).due("owes 1 0 0 0", w[1] * w[2]);
        }
    }

    /** What does not go to the other one is gone; the LOSE brings something all the same. */
    private static void lostFull() {
        int[][] bothAndDue = {{40000, 60000, 100000}, {40001, 60000, 60000}, {40000, 60001, 60001}, {1, 99999, 100000}, {1, 100000, 100000}, {0, 100000, 100000}, {100000, 0, 100000}};
        for (int[] b : bothAndDue) {
            Run run = new Run("firm", "begin 0 0 0 1 " + b[0] + " 0", "begin 0 0 0 1 " + b[1] + " 0", "lose 0 1 0").due("idle 0 0", 0);
            run.due("stands 0 0 0 0", NO).due("stands 1 0 0 0", b[2]).due("gain 0 2 2", b[2]);
        }
        new Run("firm", "begin 0 0 0 1 5 0", "begin 0 0 0 1 7 0", "lose 0 NONE 0").due("idle 0 0", 0).due("stands 0 0 0 0", NO).due("stands 1 0 0 0", 7).due("gain 0 2 2", 7);
    }

    private static void otherFirm() {
        Run run = new Run("firm", "firm", "begin 0 0 0 1 5 0", "begin 0 1 0 1 7 0", "split 0 1 1 0").due("idle 0 0", 1).due("stands 0 0 0 0", 5).due("stands 1 0 0 0", 7);
        run.does("lose 0 1 0").due("idle 0 0", 1).due("stands 0 0 0 0", NO).due("stands 1 0 0 0", 7);
    }

    private static void otherNotLive() {
        Run run = new Run("firm", "days 9", "begin 0 0 0 900 5 0", "begin 0 0 0 900 7 4", "split 0 1 1 3").due("idle 9 9", 1).due("stands 0 9 9 0", 5).due("stands 1 9 9 0", 7);
        run.does("split 0 1 1 4").due("idle 9 9", 1).due("stands 0 9 9 0", 4).due("stands 1 9 9 0", 8);
        run.does("begin 0 0 0 900 2 1", "lose 2 1 3").due("stands 1 9 9 0", 8).due("stands 2 3 9 0", NO).due("idle 9 9", 1);
        run.does("begin 0 0 0 900 2 1", "lose 3 1 4").due("stands 1 9 9 0", 10).due("idle 9 9", 1);
        run.does("lose 1 NONE 6", "split 0 1 1 6", "split 0 1 1 5").due("idle 9 9", 2).due("stands 0 9 9 0", 3).due("stands 1 5 9 0", 11).due("stands 1 6 9 0", NO);
    }

    /** TERM 1 and TERM 900, from the first DAY and from the last. */
    private static void terms() {
        new Run("firm", "begin 0 0 0 1 3 0").due("stands 0 1 0 1", 0).due("stands 0 2 0 1", 1).due("gain 0 1 0", 0).due("gain 0 2 0", 3);
        new Run("firm", "begin 0 0 0 900 3 0").due("stands 0 900 0 1", 0).due("gain 0 900 0", 0).due("stands 0 900 0 2", 900);
        new Run("firm", "begin 0 0 0 899 3 0").due("stands 0 899 0 1", 0).due("stands 0 900 0 1", 1).due("gain 0 899 0", 0).due("gain 0 900 0", 3);
        new Run("firm", "days 1", "begin 0 0 0 899 3 1").due("stands 0 900 1 1", 0).due("stands 0 0 1 1", NO);
    }

    private static void owesFar() {
        Run run = new Run("firm", "firm", "shop 1", "shop 0", "begin 10 0 0 900 100000 0", "begin 10 1 0 900 0 0");
        for (int i = 0; i < 49; i++) {
            run.does("spend 0 0 100000 0", "load 0 100000 0");
        }
        run.due("owes 0 1 0 0", 4900000).due("owes 1 0 0 0", -4900000).due("owes 0 0 0 0", 0).due("owes 1 1 0 0", 0).due("stands 0 0 0 0", 100000).due("idle 0 0", 0);
        Run less = new Run("firm", "firm", "shop 1", "begin 10 0 0 900 5 0", "spend 0 0 5 0", "back 0 0 100 0").due("owes 0 1 0 0", -95).due("owes 1 0 0 0", 95);
        less.does("spend 0 0 100 0").due("owes 0 1 0 0", 5).due("idle 0 0", 0);
    }

    private static void fallByCoin() {
        int[][] due = {{0, 0, 0, 0}, {1, 1, 0, 0}, {2, 1, 1, 0}, {3, 1, 1, 1}, {4, 2, 1, 1}, {29, 10, 10, 9}, {30, 10, 10, 10}, {31, 10, 10, 10}, {1000000, 10, 10, 10}};
        for (int[] d : due) {
            Run run = new Run("firm", "begin 0 0 0 1 10 0", "begin 0 0 0 1 10 0", "begin 0 0 0 1 10 0");
            run.due("fall 0 " + d[0], d[1]).due("fall 1 " + d[0], d[2]).due("fall 2 " + d[0], d[3]);
        }
        new Run("firm", "begin 0 0 0 1 0 0", "begin 0 0 0 1 0 0").due("fall 0 0", 0).due("fall 0 1", 0).due("fall 1 1000000", 0);
        Run far = new Run("firm").times(30, "begin 0 0 0 1 100000 0");
        far.due("fall 0 1000000", 33334).due("fall 9 1000000", 33334).due("fall 10 1000000", 33333).due("fall 29 1000000", 33333).due("fall 29 999990", 33333);
    }

    /** 1 each to the first that have less than their WORTH, once each; one without WORTH gets none. */
    private static void fallLeftOver() {
        Run run = new Run("firm", "begin 0 0 0 1 0 0", "begin 0 0 0 1 1 0", "begin 0 0 0 1 1 0", "begin 0 0 0 1 98 0");
        run.due("fall 0 99", 0).due("fall 1 99", 1).due("fall 2 99", 1).due("fall 3 99", 97);
        run.due("fall 1 98", 1).due("fall 2 98", 1).due("fall 3 98", 96).due("fall 1 50", 1).due("fall 2 50", 0).due("fall 3 50", 49);
        run.due("fall 0 100", 0).due("fall 1 100", 1).due("fall 2 100", 1).due("fall 3 100", 98).due("fall 3 101", 98);
    }

    /** LIVE and not ENDED TODAY, as KNOWN TODAY, of the same FIRM. */
    private static void fallOfWhom() {
        Run run = new Run("firm", "firm", "shop 0", "begin 0 0 0 5 10 0", "begin 0 0 0 9 10 0", "begin 0 1 0 9 10 0", "days 5");
        run.due("fall 0 10", 5).due("fall 1 10", 5).due("fall 2 10", 10).does("days 1").due("fall 0 10", NO).due("fall 1 10", 10);
        run.does("spend 1 0 4 6").due("fall 1 10", 6).does("withdraw 3").due("fall 1 10", 10).does("lose 1 NONE 6").due("fall 1 10", NO).due("fall 3 10", BAD);
        run.due("fall 2 10", 10).does("days 4").due("fall 2 10", NO);
        Run odd = new Run("firm", "firm", "begin 0 1 0 9 10 0", "begin 0 0 0 9 10 0", "begin 0 0 0 1 10 0", "begin 0 0 0 9 0 0", "begin 0 0 0 9 10 0", "begin 0 1 0 9 10 0", "days 2");
        odd.due("fall 1 1", 1).due("fall 4 1", 0).due("fall 3 1", 0).due("fall 1 2", 1).due("fall 4 2", 1).due("fall 1 3", 2).due("fall 4 3", 1).due("fall 2 3", NO);
        odd.due("fall 0 3", 2).due("fall 5 3", 1).due("gain 0 2 2", 10).due("gain 1 2 2", 0).due("gain 1 10 2", 20);
    }
}
