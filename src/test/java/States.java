/** States from which calls are refused: one with something of everything, one in which everything is full. */
final class States {
    static final int FIRMS = 2, SHOPS = 3, VOUCHERS = 6, LINES = 17, TODAY = 20, TAPE = 33, PROMOTIONS = 3, PLACES = 5, ENDED = 1, LOST = 3;
    /* Exactly as long as the tape may be. */
    static final String LONGEST_LAW = "end t+1111-1111+1111-1111+1111-1111 change 1 gain 1111-1111+1111-1111+1111-1111+1111-1111+1111+a";

    private States() {
    }

    static Run fresh() {
        return new Run();
    }

    /** Something of everything; sheet 1 is missing, voucher 1 is ended, voucher 3 is lost, shop 0 is barred. */
    static Run rich() {
        Run run = new Run("firm", "firm", "shop 0", "shop 1", "shop 1");
        run.law(0, "end t+3 change w<100 gain a/2");
        run.does("begin 10 0 1234 30 5000 0", "spend 0 1 41 0", "days 5", "begin 1 0 1300 10 200 5", "days 10", "guess 5555 0");
        run.does("begin 20 1 77 40 900 10", "begin 32 1 9999 900 100 12", "begin 0 0 4444 5 60 15", "begin 10 0 8080 100 99000 15");
        run.does("load 0 7 14", "split 5 0 10 15", "spend 2 0 30 12", "spend 2 0 901 13", "back 0 1 5 15", "lose 3 2 15", "spend 4 0 1 15", "days 5");
        run.does("withdraw 7", "withdraw 9", "spend 5 2 8 20", "load 5 2 19", "split 0 5 3 18", "guess 5555 0", "guess 6666 0", "guess 1235 1", "tries 2");
        run.does("item 100 0", "item 60 1", "item 60 1", "item 40 2", "promotion 0 50 1", "promotion 1 30 150", "promotion 2 2 2", "join 0 1 1", "join 0 2 1");
        run.does("tell 0", "tell 210", "tell 2", "tell 150", "exchange 0 1 3 2", "exchange 1 0 3 4", "exchange 1 2 1 1");
        run.does("sheet 0 5", "mark 0 0 7", "mark 0 1 10000", "mark 0 2 9999", "mark 0 4 3");
        return run.text("end t+b+w*2 change a gain a-1+b/5");
    }

    /** Rich, but both sheets are there. */
    static Run sheets() {
        return rich().does("sheet 1 3", "mark 1 0 4", "mark 1 2 6");
    }

    /** No number more of anything: TODAY is the last DAY. */
    static Run full() {
        Run run = new Run();
        run.times(5, "firm");
        for (int shop = 0; shop < 10; shop++) {
            run.does("shop " + shop % 5);
        }
        run.times(9, "days 100");
        for (int voucher = 0; voucher < 30; voucher++) {
            run.does("begin " + (10 * (voucher % 4) + voucher % 3) + " " + voucher % 5 + " " + 300 * voucher + " 900 1000 " + 30 * voucher);
        }
        for (int line = 30; line < 100; line++) {
            run.does("spend " + line % 30 + " " + line % 10 + " " + line + " " + 9 * line);
        }
        run.times(8, "item 50 3").does("promotion 0 10 8", "promotion 1 20 30").times(4, "promotion 1 5 0").does("join 0 1 1", "join 0 2 1");
        run.times(15, "exchange 2 4 1 1").does("exchange 4 2 3 2").times(60, "guess 9999 4").times(20, "tell 1").does("sheet 0 16", "sheet 1 16", "mark 0 15 8");
        return run.text(LONGEST_LAW);
    }
}
