import java.util.Arrays;

/** Vouchers that stand for money over shops of several firms; ../shared/DOC.md has what each call promises. */
public final class VoucherHall {
    public static final int BAD = -1000000001, NO = -1000000002, FULL = -1000000003, SPENT = -1000000004, NONE = -1000000005, NOTHING = -1000000011, INDEX = -1000000013, SIZE = -1000000014;

    private static final int LAST_DAY = 900, MOST_DAYS_AT_ONCE = 100;
    private static final int MOST_FIRMS = 5, MOST_SHOPS = 10, MOST_VOUCHERS = 30, MOST_LINES = 100;
    private static final int LANDS = 3, MOST_CODE = 9999, MOST_TERM = 900, MOST_WORTH = 100000, MOST_COIN = 1000000;
    private static final int NOTE = 0, CARD = 1, GIFT = 2, PROMISE = 3;
    private static final int BEGIN = 0, SPEND = 1, LOAD = 2, SPLIT = 3, RETURN = 4, LOSE = 5;

    private static final int MOST_BYTES = 96, BYTES_FED = 12, FIRST_FAULT = -100;
    private static final int LAW_END = 0, LAW_CHANGE = 1, LAW_GAIN = 2, LAW_PARTS = 3;
    private static final String NAMES = "kwtab";
    private static final int NAMES_SIZE = 5;
    /* Code of a law: 0 .. 9999 is a number, -1 .. -5 a name by its place in NAMES, below that a work on what stands ahead of it. */
    private static final int LAST_NAME = -5, OR = -6, AND = -7, LESS = -8, SAME = -9, MORE = -10;
    private static final int PLUS = -11, MINUS = -12, TIMES = -13, BY = -14, NOT = -15;

    private static final int MOST_ITEMS = 8, MOST_PRICE = 9999, LAST_SORT = 7;
    private static final int MOST_PROMOTIONS = 6, MOST_BITS = 255, MOST_ALL = 99999, MOST_PART = 90;
    private static final int PART = 0, OFF = 1, PAIR = 2, CAP = 3;
    private static final int MOST_TRIES = 5000, MOST_WAITING = 20;
    /* A longer row of digits would have to tell a promotion twice. */
    private static final int HIGHEST_ROW = 999999, HIGHEST_UNIT = 100000;

    private static final int FORMS = 6, MOST_EXCHANGES = 16, MOST_RATE = 999, LONGEST_ROUND = 6;
    private static final int MOST_GUESSES = 60, BARRING_DAYS = 7, MOST_WILD = 9, WILD_AT_FIRST = 3, FIGURES = 4;
    private static final int RIGHT = 2, NEAR = 1, WILD = 0;
    private static final int SHEETS = 2, MOST_PLACES = 16, MISSING = -1;

    private final Trade trade = new Trade();
    private final Vouchers vouchers = new Vouchers();
    private final Lines lines = new Lines();
    private final LawBook laws = new LawBook();
    private final byte[] tape = new byte[MOST_BYTES];
    private int tapeSize = 0;
    private final LawReader reader = new LawReader(tape);
    private final Standing standing = new Standing(trade, vouchers, lines, laws);
    private final Basket basket = new Basket();
    private final Mixer mixer = new Mixer(basket);
    private final Exchanges exchanges = new Exchanges();
    private final Guesses guesses = new Guesses();
    private final Sheets sheets = new Sheets();
    private final int[] waiting = new int[MOST_WAITING];
    private int waitingSize = 0;

    public VoucherHall() {
    }

    private static boolean within(int value, int least, int most) {
        return value >= least && value <= most;
    }

    // ---- firms, vouchers, lines

    public int firm() {
        if (trade.firms >= MOST_FIRMS) {
            return FULL;
        }
        trade.firms++;
        return trade.firms - 1;
    }

    public int shop(int firm) {
        if (!trade.hasFirm(firm)) {
            return BAD;
        }
        return trade.openShop(firm);
    }

    public int days(int n) {
        if (!within(n, 1, MOST_DAYS_AT_ONCE) || trade.today + n > LAST_DAY) {
            return BAD;
        }
        trade.today += n;
        return trade.today;
    }

    public int begin(int kind, int firm, int code, int term, int worth, int about) {
        if (!isKindAndLand(kind) || !trade.hasFirm(firm) || !within(code, 0, MOST_CODE)
                || !within(term, 1, MOST_TERM) || !within(worth, 0, MOST_WORTH) || !trade.hasBeen(about)) {
            return BAD;
        }
        if (vouchers.isFull() || lines.isFull()) {
            return FULL;
        }
        int voucher = vouchers.append(kind, firm, code, term, worth);
        return lines.append(BEGIN, voucher, about, trade.today, worth, NONE);
    }

    private static boolean isKindAndLand(int kind) {
        return kind >= 0 && kind / 10 <= PROMISE && kind % 10 < LANDS;
    }

    public int isOf(int voucher, int kind) {
        if (!vouchers.has(voucher) || !within(kind, NOTE, PROMISE)) {
            return BAD;
        }
        int own = vouchers.kind[voucher];
        return kind == NOTE || kind == own || kind == GIFT && own == PROMISE ? 1 : 0;
    }

    public int spend(int voucher, int shop, int sum, int about) {
        if (!trade.hasShop(shop)) {
            return BAD;
        }
        return tellSum(SPEND, voucher, shop, sum, about);
    }

    public int load(int voucher, int sum, int about) {
        return tellSum(LOAD, voucher, NONE, sum, about);
    }

    public int split(int voucher, int other, int sum, int about) {
        if (!vouchers.has(other) || other == voucher) {
            return BAD;
        }
        return tellSum(SPLIT, voucher, other, sum, about);
    }

    public int back(int voucher, int shop, int sum, int about) {
        if (!trade.hasShop(shop)) {
            return BAD;
        }
        return tellSum(RETURN, voucher, shop, sum, about);
    }

    private int tellSum(int kind, int voucher, int partner, int sum, int about) {
        if (!within(sum, 1, MOST_WORTH)) {
            return BAD;
        }
        return tellLine(kind, voucher, partner, sum, about);
    }

    private int tellLine(int kind, int voucher, int partner, int sum, int about) {
        if (!vouchers.has(voucher) || !trade.hasBeen(about)) {
            return BAD;
        }
        if (lines.isFull()) {
            return FULL;
        }
        return lines.append(kind, voucher, about, trade.today, sum, partner);
    }

    public int lose(int voucher, int other, int about) {
        if (other != NONE && !vouchers.has(other) || other == voucher) {
            return BAD;
        }
        return tellLine(LOSE, voucher, other, 0, about);
    }

    public int withdraw(int line) {
        if (!lines.has(line)) {
            return BAD;
        }
        if (lines.withdrawn[line] != NONE) {
            return NO;
        }
        lines.withdrawn[line] = trade.today;
        lines.withdrawnOnes++;
        return 1;
    }

    public int line(int line, int what) {
        if (!lines.has(line)) {
            return BAD;
        }
        switch (what) {
            case 0: return lines.kind[line];
            case 1: return lines.voucher[line];
            case 2: return lines.about[line];
            case 3: return lines.told[line];
            case 4: return lines.withdrawn[line];
            case 5: return lines.sum[line];
            case 6: return lines.partner[line];
            default: return BAD;
        }
    }

    private static boolean areDays(int day, int known) {
        return within(day, 0, LAST_DAY) && within(known, 0, LAST_DAY);
    }

    public int stands(int voucher, int day, int known, int what) {
        if (!vouchers.has(voucher) || !areDays(day, known) || !within(what, 0, 4)) {
            return BAD;
        }
        standing.play(day, known);
        if (!standing.live[voucher]) {
            return NO;
        }
        switch (what) {
            case 0: return standing.worth[voucher];
            case 1: return standing.isEnded(voucher, day) ? 1 : 0;
            case 2: return standing.life(voucher);
            case 3: return standing.from[voucher];
            default: return standing.givesChange(voucher, day) ? 1 : 0;
        }
    }

    public int idle(int day, int known) {
        if (!areDays(day, known)) {
            return BAD;
        }
        standing.play(day, known);
        return standing.idleOnes;
    }

    public int owes(int a, int b, int day, int known) {
        if (!trade.hasFirm(a) || !trade.hasFirm(b) || !areDays(day, known)) {
            return BAD;
        }
        standing.play(day, known);
        return standing.sold[b][a] - standing.sold[a][b];
    }

    public int gain(int firm, int day, int known) {
        if (!trade.hasFirm(firm) || !areDays(day, known)) {
            return BAD;
        }
        standing.play(day, known);
        return standing.gainOf(firm, day);
    }

    public int fall(int voucher, int coin) {
        if (!vouchers.has(voucher) || !within(coin, 0, MOST_COIN)) {
            return BAD;
        }
        standing.play(trade.today, trade.today);
        if (!standing.live[voucher] || standing.isEnded(voucher, trade.today)) {
            return NO;
        }
        return standing.shareOf(voucher, coin, trade.today);
    }

    // ---- laws

    public int feed(int a, int b, int c) {
        if (tapeSize + BYTES_FED > MOST_BYTES) {
            return FULL;
        }
        putOnTape(a);
        putOnTape(b);
        putOnTape(c);
        return tapeSize;
    }

    private void putOnTape(int number) {
        for (int shift = 24; shift >= 0 && tapeSize < MOST_BYTES; shift -= 8) {
            tape[tapeSize] = (byte) (number >> shift);
            tapeSize++;
        }
    }

    public int trim(int n) {
        if (!within(n, 0, tapeSize)) {
            return BAD;
        }
        tapeSize = n;
        return n;
    }

    public int law(int land) {
        int length = tapeSize;
        // The tape is used up whatever the answer is, a refused land's too.
        tapeSize = 0;
        if (!within(land, 0, LANDS - 1)) {
            return BAD;
        }
        if (!reader.read(length)) {
            return FIRST_FAULT - reader.tokenStart;
        }
        laws.enact(land, reader.code, reader.starts);
        return reader.leaves;
    }

    // ---- baskets

    public int item(int price, int sort) {
        if (!within(price, 1, MOST_PRICE) || !within(sort, 0, LAST_SORT)) {
            return BAD;
        }
        if (!basket.put(price, sort)) {
            return FULL;
        }
        return basket.items;
    }

    public int items(int sort, int sheet) {
        if (!within(sort, 0, LAST_SORT) || !within(sheet, 0, SHEETS - 1)) {
            return BAD;
        }
        if (sheets.isMissing(sheet)) {
            return NOTHING;
        }
        int came = 0;
        for (int place = 0; place < sheets.size[sheet]; place++) {
            int price = sheets.places[sheet][place];
            if (within(price, 1, MOST_PRICE) && basket.put(price, sort)) {
                came++;
            }
        }
        return came;
    }

    public int empty() {
        int had = basket.items;
        basket.items = 0;
        return had;
    }

    public int promotion(int kind, int a, int b) {
        if (!isPromotion(kind, a, b)) {
            return BAD;
        }
        if (basket.promotions >= MOST_PROMOTIONS) {
            return FULL;
        }
        return basket.offer(kind, a, b);
    }

    private static boolean isPromotion(int kind, int a, int b) {
        switch (kind) {
            case PART: return within(a, 1, MOST_PART) && within(b, 0, MOST_BITS);
            case OFF: return within(a, 1, MOST_PRICE) && within(b, 0, MOST_ALL);
            case PAIR: return within(a, 2, MOST_ITEMS) && within(b, 0, MOST_BITS);
            case CAP: return within(a, 1, MOST_ALL) && within(b, 1, MOST_ITEMS);
            default: return false;
        }
    }

    public int join(int one, int other, int on) {
        if (!basket.hasPromotion(one) || !basket.hasPromotion(other) || one == other || !within(on, 0, 1)) {
            return BAD;
        }
        int was = basket.joining[one][other];
        basket.joining[one][other] = on;
        basket.joining[other][one] = on;
        return was;
    }

    public int mix(int tries) {
        if (!within(tries, 1, MOST_TRIES)) {
            return BAD;
        }
        return mixer.seek(tries) ? mixer.bestCost : SPENT;
    }

    public int mixed(int tries, int i) {
        if (i < 0 || !within(tries, 1, MOST_TRIES)) {
            return BAD;
        }
        if (!mixer.seek(tries)) {
            return SPENT;
        }
        return i < mixer.bestSize ? mixer.best[i] : NONE;
    }

    public int costs(int row) {
        if (!within(row, 0, HIGHEST_ROW)) {
            return BAD;
        }
        mixer.start();
        int level = 0;
        for (int unit = HIGHEST_UNIT; unit > 0; unit /= 10) {
            if (row >= unit) {
                int promotion = row / unit % 10 - 1;
                if (!basket.hasPromotion(promotion) || !mixer.mayCome(promotion, level)) {
                    return BAD;
                }
                mixer.work(promotion, level);
                level++;
            }
        }
        return mixer.all(level);
    }

    public int tell(int v) {
        if (waitingSize >= MOST_WAITING) {
            return FULL;
        }
        waiting[waitingSize] = v;
        waitingSize++;
        return waitingSize;
    }

    public int check() {
        int told = waitingSize;
        waitingSize = 0;
        if (!mixer.seek(MOST_TRIES)) {
            return SPENT;
        }
        int due = mixer.writeRows();
        int right = 0;
        for (int i = 0; i < told && i < due && right == i; i++) {
            if (waiting[i] == mixer.rows[i]) {
                right++;
            }
        }
        return right == told && right == due ? 0 : 1 + right;
    }

    // ---- exchanges

    public int exchange(int from, int to, int p, int q) {
        if (!isForm(from) || !isForm(to) || from == to || !within(p, 1, MOST_RATE) || !within(q, 1, MOST_RATE)) {
            return BAD;
        }
        if (exchanges.size >= MOST_EXCHANGES) {
            return FULL;
        }
        return exchanges.append(from, to, p, q);
    }

    private static boolean isForm(int form) {
        return within(form, 0, FORMS - 1);
    }

    public int hole(int form, int i) {
        if (!isForm(form) || i < 0) {
            return BAD;
        }
        int length = exchanges.seekHole(form);
        if (length == 0) {
            return NO;
        }
        return i < length ? exchanges.round[i] : NONE;
    }

    // ---- guesses

    public int guess(int code, int shop) {
        if (!within(code, 0, MOST_CODE) || !trade.hasShop(shop)) {
            return BAD;
        }
        if (guesses.size >= MOST_GUESSES) {
            return FULL;
        }
        standing.play(trade.today, trade.today);
        int found = standing.findCode(code);
        boolean refused = found == RIGHT && guesses.isBarred(shop, trade.today);
        guesses.append(shop, trade.today, found == WILD);
        return refused ? NO : found;
    }

    public int barred(int shop) {
        if (!trade.hasShop(shop)) {
            return BAD;
        }
        return guesses.isBarred(shop, trade.today) ? 1 : 0;
    }

    public int tries(int v) {
        if (!within(v, 0, MOST_WILD)) {
            return BAD;
        }
        int was = guesses.allowed;
        guesses.allowed = v;
        return was;
    }

    // ---- sheets

    public int sheet(int s, int n) {
        if (!within(s, 0, SHEETS - 1) || n > MOST_PLACES) {
            return BAD;
        }
        if (n < 0) {
            return SIZE;
        }
        Arrays.fill(sheets.places[s], (short) 0);
        sheets.size[s] = n;
        return n;
    }

    public int mark(int s, int place, int v) {
        if (!within(s, 0, SHEETS - 1)) {
            return BAD;
        }
        if (sheets.isMissing(s)) {
            return NOTHING;
        }
        if (!within(place, 0, sheets.size[s] - 1)) {
            return INDEX;
        }
        int was = sheets.places[s][place];
        sheets.places[s][place] = (short) v;
        return was;
    }

    public int copy(int from, int place, int to, int at, int many) {
        if (!within(from, 0, SHEETS - 1) || !within(to, 0, SHEETS - 1)) {
            return BAD;
        }
        if (sheets.isMissing(from) || sheets.isMissing(to)) {
            return NOTHING;
        }
        if (!sheets.hasPlaces(from, place, many) || !sheets.hasPlaces(to, at, many)) {
            return INDEX;
        }
        System.arraycopy(sheets.places[from], place, sheets.places[to], at, many);
        return many;
    }

    public int count(int what) {
        switch (what) {
            case 0: return trade.firms;
            case 1: return trade.shops;
            case 2: return vouchers.size;
            case 3: return lines.size;
            case 4: return lines.withdrawnOnes;
            case 5: return basket.items;
            case 6: return basket.promotions;
            case 7: return exchanges.size;
            case 8: return guesses.size;
            case 9: return trade.today;
            case 10: return waitingSize;
            case 11: return tapeSize;
            default: return BAD;
        }
    }

    private static final class Trade {
        int today = 0;
        int firms = 0;
        int shops = 0;
        final int[] firmOfShop = new int[MOST_SHOPS];

        Trade() {
        }

        boolean hasFirm(int firm) {
            return firm >= 0 && firm < firms;
        }

        boolean hasShop(int shop) {
            return shop >= 0 && shop < shops;
        }

        boolean hasBeen(int day) {
            return day >= 0 && day <= today;
        }

        int openShop(int firm) {
            if (shops >= MOST_SHOPS) {
                return FULL;
            }
            firmOfShop[shops] = firm;
            shops++;
            return shops - 1;
        }
    }

    private static final class Vouchers {
        int size = 0;
        final int[] kind = new int[MOST_VOUCHERS];
        final int[] land = new int[MOST_VOUCHERS];
        final int[] firm = new int[MOST_VOUCHERS];
        final int[] code = new int[MOST_VOUCHERS];
        final int[] term = new int[MOST_VOUCHERS];
        final int[] begunWorth = new int[MOST_VOUCHERS];

        Vouchers() {
        }

        boolean has(int voucher) {
            return voucher >= 0 && voucher < size;
        }

        boolean isFull() {
            return size >= MOST_VOUCHERS;
        }

        int append(int kindAndLand, int ofFirm, int itsCode, int itsTerm, int itsWorth) {
            if (isFull()) {
                return FULL;
            }
            kind[size] = kindAndLand / 10;
            land[size] = kindAndLand % 10;
            firm[size] = ofFirm;
            code[size] = itsCode;
            term[size] = itsTerm;
            begunWorth[size] = itsWorth;
            size++;
            return size - 1;
        }
    }

    private static final class Lines {
        int size = 0;
        int withdrawnOnes = 0;
        final int[] kind = new int[MOST_LINES];
        final int[] voucher = new int[MOST_LINES];
        final int[] about = new int[MOST_LINES];
        final int[] told = new int[MOST_LINES];
        final int[] withdrawn = new int[MOST_LINES];
        final int[] sum = new int[MOST_LINES];
        /* The shop of a spend or a return, the other voucher of a split or a loss, else NONE. */
        final int[] partner = new int[MOST_LINES];
        /* The numbers of the lines by the days that they are about, so that a play need not sort. */
        final int[] inOrder = new int[MOST_LINES];

        Lines() {
        }

        boolean has(int line) {
            return line >= 0 && line < size;
        }

        boolean isFull() {
            return size >= MOST_LINES;
        }

        boolean isKnown(int line, int day) {
            return told[line] <= day && (withdrawn[line] == NONE || withdrawn[line] > day);
        }

        int append(int itsKind, int itsVoucher, int itsDay, int today, int itsSum, int itsPartner) {
            if (isFull()) {
                return FULL;
            }
            kind[size] = itsKind;
            voucher[size] = itsVoucher;
            about[size] = itsDay;
            told[size] = today;
            withdrawn[size] = NONE;
            sum[size] = itsSum;
            partner[size] = itsPartner;
            putInOrder(size);
            size++;
            return size - 1;
        }

        private void putInOrder(int line) {
            int place = line;
            while (place > 0 && about[inOrder[place - 1]] > about[line]) {
                inOrder[place] = inOrder[place - 1];
                place--;
            }
            inOrder[place] = line;
        }
    }

    /** How all vouchers stand for the day, and as known on the day, that was played last. */
    private static final class Standing {
        final boolean[] live = new boolean[MOST_VOUCHERS];
        final int[] worth = new int[MOST_VOUCHERS];
        final int[] from = new int[MOST_VOUCHERS];
        /* What a firm (first) sold by vouchers of a firm (second). */
        final int[][] sold = new int[MOST_FIRMS][MOST_FIRMS];
        int idleOnes = 0;
        private final Trade trade;
        private final Vouchers vouchers;
        private final Lines lines;
        private final LawBook laws;
        private final int[] named = new int[NAMES_SIZE];

        Standing(Trade trade, Vouchers vouchers, Lines lines, LawBook laws) {
            this.trade = trade;
            this.vouchers = vouchers;
            this.lines = lines;
            this.laws = laws;
        }

        void play(int day, int known) {
            forget();
            for (int i = 0; i < lines.size; i++) {
                int line = lines.inOrder[i];
                if (lines.about[line] <= day && lines.isKnown(line, known) && !brings(line)) {
                    idleOnes++;
                }
            }
        }

        private void forget() {
            idleOnes = 0;
            for (int voucher = 0; voucher < MOST_VOUCHERS; voucher++) {
                live[voucher] = false;
                worth[voucher] = 0;
                from[voucher] = 0;
            }
            for (int firm = 0; firm < MOST_FIRMS; firm++) {
                Arrays.fill(sold[firm], 0);
            }
        }

        private boolean brings(int line) {
            int kind = lines.kind[line];
            int voucher = lines.voucher[line];
            if (kind == BEGIN) {
                return comes(voucher, lines.about[line]);
            }
            if (!live[voucher]) {
                return false;
            }
            boolean takes = kind == SPEND || kind == SPLIT;
            if (takes && (worth[voucher] < lines.sum[line] || isEnded(voucher, lines.about[line]))) {
                return false;
            }
            switch (kind) {
                case SPEND: return isSpent(line, voucher);
                case LOAD: return isLoaded(line, voucher);
                case SPLIT: return isSplit(line, voucher);
                case RETURN: return isReturned(line, voucher);
                default: return isLost(voucher, lines.partner[line]);
            }
        }

        private boolean comes(int voucher, int day) {
            live[voucher] = true;
            worth[voucher] = vouchers.begunWorth[voucher];
            from[voucher] = day;
            return true;
        }

        private boolean isSpent(int line, int voucher) {
            worth[voucher] -= lines.sum[line];
            sell(lines.partner[line], voucher, lines.sum[line]);
            return true;
        }

        private boolean isLoaded(int line, int voucher) {
            if (vouchers.kind[voucher] != CARD || !hasRoom(voucher, lines.sum[line])) {
                return false;
            }
            worth[voucher] += lines.sum[line];
            from[voucher] = lines.about[line];
            return true;
        }

        private boolean isSplit(int line, int voucher) {
            int other = lines.partner[line];
            if (!takesFrom(voucher, other, lines.sum[line])) {
                return false;
            }
            worth[voucher] -= lines.sum[line];
            worth[other] += lines.sum[line];
            return true;
        }

        private boolean isReturned(int line, int voucher) {
            if (!hasRoom(voucher, lines.sum[line])) {
                return false;
            }
            worth[voucher] += lines.sum[line];
            sell(lines.partner[line], voucher, -lines.sum[line]);
            return true;
        }

        private boolean isLost(int voucher, int other) {
            live[voucher] = false;
            if (takesFrom(voucher, other, worth[voucher])) {
                worth[other] += worth[voucher];
            }
            worth[voucher] = 0;
            return true;
        }

        private boolean hasRoom(int voucher, int sum) {
            return worth[voucher] + sum <= MOST_WORTH;
        }

        private boolean takesFrom(int voucher, int other, int sum) {
            return vouchers.has(other) && live[other] && vouchers.firm[other] == vouchers.firm[voucher]
                    && hasRoom(other, sum);
        }

        private void sell(int shop, int voucher, int sum) {
            if (trade.hasShop(shop)) {
                sold[trade.firmOfShop[shop]][vouchers.firm[voucher]] += sum;
            }
        }

        boolean isEnded(int voucher, int day) {
            return day - from[voucher] > life(voucher);
        }

        int life(int voucher) {
            int term = vouchers.term[voucher];
            int land = vouchers.land[voucher];
            if (vouchers.kind[voucher] == PROMISE || !laws.given[land]) {
                return term;
            }
            return Math.max(term, laws.value(land, LAW_END, namesOf(voucher, 0)));
        }

        private int[] namesOf(int voucher, int age) {
            named[0] = vouchers.kind[voucher];
            named[1] = worth[voucher];
            named[2] = vouchers.term[voucher];
            named[3] = age;
            named[4] = vouchers.begunWorth[voucher];
            return named;
        }

        boolean givesChange(int voucher, int day) {
            int land = vouchers.land[voucher];
            return live[voucher] && worth[voucher] > 0 && !isEnded(voucher, day) && laws.given[land]
                    && laws.value(land, LAW_CHANGE, namesOf(voucher, day - from[voucher])) != 0;
        }

        int gainOf(int firm, int day) {
            int all = 0;
            for (int voucher = 0; voucher < vouchers.size; voucher++) {
                if (vouchers.firm[voucher] == firm && live[voucher]) {
                    all += gainBy(voucher, day);
                }
            }
            return all;
        }

        private int gainBy(int voucher, int day) {
            if (isEnded(voucher, day)) {
                return worth[voucher];
            }
            int land = vouchers.land[voucher];
            if (!laws.given[land]) {
                return 0;
            }
            int told = laws.value(land, LAW_GAIN, namesOf(voucher, day - from[voucher]));
            return Math.max(0, Math.min(worth[voucher], told));
        }

        int shareOf(int voucher, int coin, int day) {
            int firm = vouchers.firm[voucher];
            long all = 0;
            for (int one = 0; one < vouchers.size; one++) {
                all += hasClaim(one, firm, day) ? worth[one] : 0;
            }
            long left = coin;
            for (int one = 0; one < vouchers.size; one++) {
                left -= hasClaim(one, firm, day) ? cutShare(one, coin, all) : 0;
            }
            int share = 0;
            for (int one = 0; one <= voucher; one++) {
                share = hasClaim(one, firm, day) ? cutShare(one, coin, all) : 0;
                if (hasClaim(one, firm, day) && share < worth[one] && left > 0) {
                    share++;
                    left--;
                }
            }
            return share;
        }

        private boolean hasClaim(int voucher, int firm, int day) {
            return vouchers.firm[voucher] == firm && live[voucher] && !isEnded(voucher, day);
        }

        private int cutShare(int voucher, long coin, long all) {
            return all == 0 ? 0 : (int) Math.min(worth[voucher], coin * worth[voucher] / all);
        }

        int findCode(int code) {
            int found = WILD;
            for (int voucher = 0; voucher < vouchers.size; voucher++) {
                int unlike = live[voucher] ? unlikeFigures(code, vouchers.code[voucher]) : FIGURES;
                if (unlike == 0) {
                    return RIGHT;
                }
                if (unlike == 1) {
                    found = NEAR;
                }
            }
            return found;
        }

        private static int unlikeFigures(int one, int other) {
            int unlike = 0;
            int unit = 1;
            for (int i = 0; i < FIGURES; i++) {
                if (one / unit % 10 != other / unit % 10) {
                    unlike++;
                }
                unit *= 10;
            }
            return unlike;
        }
    }

    /** The laws of the lands, each as code in which a work stands behind what it works on. */
    private static final class LawBook {
        final boolean[] given = new boolean[LANDS];
        private final int[][] code = new int[LANDS][MOST_BYTES];
        private final int[][] starts = new int[LANDS][LAW_PARTS + 1];
        private final int[] stack = new int[MOST_BYTES + 1];

        LawBook() {
        }

        void enact(int land, int[] newCode, int[] newStarts) {
            System.arraycopy(newCode, 0, code[land], 0, MOST_BYTES);
            System.arraycopy(newStarts, 0, starts[land], 0, LAW_PARTS + 1);
            given[land] = true;
        }

        int value(int land, int part, int[] named) {
            int top = -1;
            for (int i = starts[land][part]; i < starts[land][part + 1]; i++) {
                int step = code[land][i];
                if (step >= LAST_NAME && top < MOST_BYTES) {
                    top++;
                    stack[top] = step >= 0 ? step : named[-1 - step];
                } else if (step == NOT && top >= 0) {
                    stack[top] = stack[top] == 0 ? 1 : 0;
                } else if (top >= 1) {
                    top--;
                    stack[top] = worked(step, stack[top], stack[top + 1]);
                }
            }
            return stack[0];
        }

        private static int worked(int work, int left, int right) {
            switch (work) {
                case OR: return left != 0 || right != 0 ? 1 : 0;
                case AND: return left != 0 && right != 0 ? 1 : 0;
                case LESS: return left < right ? 1 : 0;
                case SAME: return left == right ? 1 : 0;
                case MORE: return left > right ? 1 : 0;
                case PLUS: return left + right;
                case MINUS: return left - right;
                case TIMES: return left * right;
                case BY: return right == 0 ? 0 : left / right;
                default: return 0;
            }
        }
    }

    /** Reads a law's text into code. A reading that fails leaves the token at its fault. */
    private static final class LawReader {
        private static final int MOST_OPEN = 8, MOST_DIGITS = 4, BLANK = 32;
        /* Tokens above all bytes; a sign is a token by its byte. */
        private static final int TEXT_END = 256, WRONG = 257, NUMBER = 258, NAME = 259;
        private static final int WORD_END = 260, WORD_CHANGE = 261, WORD_GAIN = 262;

        /* How loosely the works bind, the loosest first. */
        private static final int OR_LEVEL = 0, AND_LEVEL = 1, TEST_LEVEL = 2, SUM_LEVEL = 3, TERM_LEVEL = 4, LEAF_LEVEL = 5;

        final int[] code = new int[MOST_BYTES];
        final int[] starts = new int[LAW_PARTS + 1];
        int leaves = 0;
        int tokenStart = 0;
        private final byte[] text;
        private int length = 0;
        private int codeSize = 0;
        private int token = TEXT_END;
        private int tokenStop = 0;
        private int tokenValue = 0;
        private boolean behindWord = false;
        private int openBrackets = 0;
        private int openNots = 0;

        LawReader(byte[] text) {
            this.text = text;
        }

        boolean read(int newLength) {
            length = Math.min(newLength, text.length);
            leaves = 0;
            codeSize = 0;
            tokenStop = 0;
            behindWord = false;
            openBrackets = 0;
            openNots = 0;
            advance();
            for (int part = 0; part < LAW_PARTS; part++) {
                if (token != WORD_END + part) {
                    return false;
                }
                advance();
                starts[part] = codeSize;
                if (!readLevel(OR_LEVEL)) {
                    return false;
                }
                starts[part + 1] = codeSize;
            }
            return token == TEXT_END;
        }

        private boolean readLevel(int level) {
            if (level >= LEAF_LEVEL) {
                return readLeaf();
            }
            boolean right = readLevel(level + 1);
            int most = level == TEST_LEVEL ? 1 : MOST_BYTES;
            for (int i = 0; i < most && right && levelOf(token) == level; i++) {
                int work = workOf(token);
                advance();
                right = readLevel(level + 1);
                emit(work);
            }
            return right;
        }

        private boolean readLeaf() {
            switch (token) {
                case NUMBER:
                case NAME:
                    leaves++;
                    emit(tokenValue);
                    advance();
                    return true;
                case '!': return openNots < MOST_OPEN && readNot();
                case '(': return openBrackets < MOST_OPEN && readBracket();
                default: return false;
            }
        }

        private boolean readNot() {
            openNots++;
            advance();
            boolean right = readLeaf();
            emit(NOT);
            openNots--;
            return right;
        }

        private boolean readBracket() {
            openBrackets++;
            advance();
            if (!readLevel(OR_LEVEL) || token != ')') {
                return false;
            }
            openBrackets--;
            advance();
            return true;
        }

        private static int levelOf(int sign) {
            switch (sign) {
                case '|': return OR_LEVEL;
                case '&': return AND_LEVEL;
                case '<': case '=': case '>': return TEST_LEVEL;
                case '+': case '-': return SUM_LEVEL;
                case '*': case '/': return TERM_LEVEL;
                default: return LEAF_LEVEL;
            }
        }

        private static int workOf(int sign) {
            switch (sign) {
                case '|': return OR;
                case '&': return AND;
                case '<': return LESS;
                case '=': return SAME;
                case '>': return MORE;
                case '+': return PLUS;
                case '-': return MINUS;
                case '*': return TIMES;
                default: return BY;
            }
        }

        private void emit(int step) {
            if (codeSize < MOST_BYTES) {
                code[codeSize] = step;
                codeSize++;
            }
        }

        private void advance() {
            int ahead = tokenStop;
            tokenStart = ahead;
            while (tokenStart < length && text[tokenStart] == BLANK) {
                tokenStart++;
            }
            boolean glued = behindWord && tokenStart == ahead;
            tokenStop = Math.min(length, tokenStart + 1);
            behindWord = false;
            if (tokenStart >= length) {
                token = TEXT_END;
            } else if (isLetter(tokenStart)) {
                takeLetters(glued);
            } else if (isDigit(tokenStart)) {
                takeDigits(glued);
            } else {
                token = text[tokenStart] & 255;
            }
        }

        private void takeLetters(boolean glued) {
            while (tokenStop < length && isLetter(tokenStop)) {
                tokenStop++;
            }
            behindWord = true;
            int name = NAMES.indexOf((char) text[tokenStart]);
            if (glued) {
                token = WRONG;
            } else if (tokenStop - tokenStart == 1 && name >= 0) {
                token = NAME;
                tokenValue = -1 - name;
            } else {
                token = isWord("end") ? WORD_END : isWord("change") ? WORD_CHANGE : isWord("gain") ? WORD_GAIN : WRONG;
            }
        }

        private void takeDigits(boolean glued) {
            while (tokenStop < length && isDigit(tokenStop)) {
                tokenStop++;
            }
            behindWord = true;
            if (glued || tokenStop - tokenStart > MOST_DIGITS) {
                token = WRONG;
                return;
            }
            token = NUMBER;
            tokenValue = 0;
            for (int i = tokenStart; i < tokenStop; i++) {
                tokenValue = tokenValue * 10 + text[i] - '0';
            }
        }

        private boolean isLetter(int place) {
            return text[place] >= 'a' && text[place] <= 'z';
        }

        private boolean isDigit(int place) {
            return text[place] >= '0' && text[place] <= '9';
        }

        private boolean isWord(String word) {
            boolean same = word.length() == tokenStop - tokenStart;
            for (int i = 0; same && i < word.length(); i++) {
                same = word.charAt(i) == text[tokenStart + i];
            }
            return same;
        }
    }

    private static final class Basket {
        int items = 0;
        final int[] price = new int[MOST_ITEMS];
        final int[] sort = new int[MOST_ITEMS];
        int promotions = 0;
        final int[] kind = new int[MOST_PROMOTIONS];
        final int[] a = new int[MOST_PROMOTIONS];
        final int[] b = new int[MOST_PROMOTIONS];
        final int[][] joining = new int[MOST_PROMOTIONS][MOST_PROMOTIONS];

        Basket() {
        }

        boolean put(int itsPrice, int itsSort) {
            if (items >= MOST_ITEMS) {
                return false;
            }
            price[items] = itsPrice;
            sort[items] = itsSort;
            items++;
            return true;
        }

        boolean hasPromotion(int promotion) {
            return promotion >= 0 && promotion < promotions;
        }

        int offer(int itsKind, int itsA, int itsB) {
            if (promotions >= MOST_PROMOTIONS) {
                return FULL;
            }
            kind[promotions] = itsKind;
            a[promotions] = itsA;
            b[promotions] = itsB;
            promotions++;
            return promotions - 1;
        }

        boolean isSortOf(int item, int promotion) {
            return (b[promotion] >> sort[item] & 1) == 1;
        }
    }

    /** Works promotions one behind the other: level n holds what all costs behind n of them. */
    private static final class Mixer {
        int bestCost = 0;
        int bestSize = 0;
        final int[] best = new int[MOST_PROMOTIONS];
        final int[] rows = new int[2 * MOST_PROMOTIONS];
        private final Basket basket;
        private final int[] row = new int[MOST_PROMOTIONS];
        private final int[][] cost = new int[MOST_PROMOTIONS + 1][MOST_ITEMS];
        private final int[] takenOff = new int[MOST_PROMOTIONS + 1];
        private int triesLeft = 0;

        Mixer(Basket basket) {
            this.basket = basket;
        }

        void start() {
            System.arraycopy(basket.price, 0, cost[0], 0, basket.items);
            takenOff[0] = 0;
        }

        int all(int level) {
            if (!within(level, 0, MOST_PROMOTIONS)) {
                return 0;
            }
            int sum = -takenOff[level];
            for (int item = 0; item < basket.items; item++) {
                sum += cost[level][item];
            }
            return Math.max(0, sum);
        }

        boolean mayCome(int promotion, int level) {
            if (level >= MOST_PROMOTIONS) {
                return false;
            }
            for (int i = 0; i < level; i++) {
                if (row[i] == promotion || basket.joining[row[i]][promotion] == 0) {
                    return false;
                }
            }
            return true;
        }

        void work(int promotion, int level) {
            if (!within(level, 0, MOST_PROMOTIONS - 1)) {
                return;
            }
            row[level] = promotion;
            System.arraycopy(cost[level], 0, cost[level + 1], 0, basket.items);
            takenOff[level + 1] = takenOff[level];
            switch (basket.kind[promotion]) {
                case PART: takePart(promotion, level + 1); break;
                case OFF: takeOff(promotion, level + 1); break;
                case PAIR: takePair(promotion, level + 1); break;
                default: takeCap(promotion, level + 1); break;
            }
        }

        private void takePart(int promotion, int level) {
            for (int item = 0; item < basket.items; item++) {
                if (basket.isSortOf(item, promotion)) {
                    cost[level][item] -= cost[level][item] * basket.a[promotion] / 100;
                }
            }
        }

        private void takeOff(int promotion, int level) {
            if (all(level) >= basket.b[promotion]) {
                takenOff[level] += basket.a[promotion];
            }
        }

        private void takePair(int promotion, int level) {
            int least = NONE;
            int many = 0;
            for (int item = 0; item < basket.items; item++) {
                if (basket.isSortOf(item, promotion)) {
                    many++;
                    least = least == NONE || cost[level][item] < cost[level][least] ? item : least;
                }
            }
            if (many >= basket.a[promotion] && least != NONE) {
                cost[level][least] = 0;
            }
        }

        private void takeCap(int promotion, int level) {
            if (basket.items >= basket.b[promotion]) {
                takenOff[level] += Math.max(0, all(level) - basket.a[promotion]);
            }
        }

        boolean seek(int tries) {
            start();
            bestCost = all(0);
            bestSize = 0;
            triesLeft = tries;
            return seekBehind(0);
        }

        private boolean seekBehind(int level) {
            for (int promotion = 0; promotion < basket.promotions; promotion++) {
                if (mayCome(promotion, level)) {
                    if (triesLeft == 0) {
                        return false;
                    }
                    triesLeft--;
                    work(promotion, level);
                    keepIfBetter(level + 1);
                    if (!seekBehind(level + 1)) {
                        return false;
                    }
                }
            }
            return true;
        }

        private void keepIfBetter(int size) {
            int now = all(size);
            if (now < bestCost || now == bestCost && size < bestSize) {
                bestCost = now;
                bestSize = size;
                System.arraycopy(row, 0, best, 0, size);
            }
        }

        int writeRows() {
            start();
            for (int i = 0; i < bestSize; i++) {
                work(best[i], i);
                rows[2 * i] = best[i];
                rows[2 * i + 1] = all(i + 1);
            }
            return 2 * bestSize;
        }
    }

    private static final class Exchanges {
        int size = 0;
        final int[] round = new int[LONGEST_ROUND];
        private final int[] from = new int[MOST_EXCHANGES];
        private final int[] to = new int[MOST_EXCHANGES];
        private final int[] p = new int[MOST_EXCHANGES];
        private final int[] q = new int[MOST_EXCHANGES];
        private final boolean[] passed = new boolean[FORMS];

        Exchanges() {
        }

        int append(int itsFrom, int itsTo, int itsP, int itsQ) {
            if (size >= MOST_EXCHANGES) {
                return FULL;
            }
            from[size] = itsFrom;
            to[size] = itsTo;
            p[size] = itsP;
            q[size] = itsQ;
            size++;
            return size - 1;
        }

        /** The length of the hole, which stands in round then; 0: there is none. */
        int seekHole(int form) {
            for (int length = 2; length <= LONGEST_ROUND; length++) {
                if (goesRound(form, form, 0, length, 1L, 1L)) {
                    return length;
                }
            }
            return 0;
        }

        /* 999 to the sixth stays below the greatest long, so that the fraction is exact. */
        private boolean goesRound(int start, int at, int done, int length, long times, long by) {
            boolean last = done + 1 == length;
            boolean found = false;
            for (int i = 0; i < size && !found && done < length; i++) {
                int next = to[i];
                if (from[i] == at && last) {
                    found = next == start && times * p[i] > by * q[i];
                } else if (from[i] == at && next != start && !passed[next]) {
                    passed[next] = true;
                    found = goesRound(start, next, done + 1, length, times * p[i], by * q[i]);
                    passed[next] = false;
                }
                if (found) {
                    round[done] = i;
                }
            }
            return found;
        }
    }

    private static final class Guesses {
        int size = 0;
        int allowed = WILD_AT_FIRST;
        private final int[] shop = new int[MOST_GUESSES];
        private final int[] day = new int[MOST_GUESSES];
        private final boolean[] wild = new boolean[MOST_GUESSES];

        Guesses() {
        }

        void append(int itsShop, int today, boolean isWild) {
            if (size < MOST_GUESSES) {
                shop[size] = itsShop;
                day[size] = today;
                wild[size] = isWild;
                size++;
            }
        }

        boolean isBarred(int ofShop, int today) {
            int many = 0;
            for (int i = 0; i < size; i++) {
                if (shop[i] == ofShop && wild[i] && day[i] > today - BARRING_DAYS) {
                    many++;
                }
            }
            return many > allowed;
        }
    }

    private static final class Sheets {
        final int[] size = new int[SHEETS];
        final short[][] places = new short[SHEETS][MOST_PLACES];

        Sheets() {
            Arrays.fill(size, MISSING);
        }

        boolean isMissing(int sheet) {
            return size[sheet] == MISSING;
        }

        boolean hasPlaces(int sheet, int place, int many) {
            return place >= 0 && many >= 0 && place <= size[sheet] && many <= size[sheet] - place;
        }
    }
}
