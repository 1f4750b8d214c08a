import java.math.BigInteger;
import java.util.ArrayList;
import java.util.Arrays;
import java.util.Comparator;
import java.util.List;

/** The document once more, with lists and sorting and no thought of cost, to be held against the program. */
final class PlainHall {
    private static final int BAD = VoucherHall.BAD, NO = VoucherHall.NO, FULL = VoucherHall.FULL, SPENT = VoucherHall.SPENT, NONE = VoucherHall.NONE;
    private static final int NOTHING = VoucherHall.NOTHING, INDEX = VoucherHall.INDEX, SIZE = VoucherHall.SIZE;

    private record Voucher(int number, int kind, int land, int firm, int code, int term, int worth) {
    }

    private static final class Line {
        int number, kind, voucher, about, told, withdrawn = NONE, sum, partner;
    }

    private static final class State {
        boolean live;
        int worth, from;
    }

    private record Promotion(int kind, int a, int b) {
    }

    private record Exchange(int number, int from, int to, int p, int q) {
    }

    private record Guess(int shop, int day, boolean wild) {
    }

    private record Item(int price, int sort) {
    }

    private int today = 0, firms = 0, tries = 3;
    private final List<Integer> shops = new ArrayList<>();
    private final List<Voucher> vouchers = new ArrayList<>();
    private final List<Line> lines = new ArrayList<>();
    private final PlainLaw[] laws = new PlainLaw[3];
    private byte[] tape = {};
    private final List<Item> basket = new ArrayList<>();
    private final List<Promotion> promotions = new ArrayList<>();
    private final boolean[][] joining = new boolean[6][6];
    private List<Integer> waiting = new ArrayList<>();
    private final List<Exchange> exchanges = new ArrayList<>();
    private final List<Guess> guesses = new ArrayList<>();
    private final short[][] sheets = new short[2][];

    private State[] states = {};
    private int idle = 0;
    private int[][] sold = {};

    int call(int number, int a, int b, int c, int d, int... more) {
        switch (number) {
            case 2: return firms == 5 ? FULL : firms++;
            case 3: return shop(a);
            case 4: return a < 1 || a > 100 || today + a > 900 ? BAD : (today += a);
            case 5: return begin(a, b, c, d, more[0], more[1]);
            case 6: return isOf(a, b);
            case 7: return !isShop(b) || isNoSum(c) ? BAD : tellLine(1, a, b, c, d);
            case 8: return isNoSum(b) ? BAD : tellLine(2, a, NONE, b, c);
            case 9: return !isVoucher(b) || a == b || isNoSum(c) ? BAD : tellLine(3, a, b, c, d);
            case 10: return !isShop(b) || isNoSum(c) ? BAD : tellLine(4, a, b, c, d);
            case 11: return !isVoucher(b) && b != NONE || a == b ? BAD : tellLine(5, a, b, 0, c);
            case 12: return withdraw(a);
            case 13: return line(a, b);
            case 14: return stands(a, b, c, d);
            case 15: return isNoDay(a) || isNoDay(b) ? BAD : play(a, b).idle;
            case 16: return !isFirm(a) || !isFirm(b) || isNoDay(c) || isNoDay(d) ? BAD : play(c, d).sold[b][a] - sold[a][b];
            case 17: return !isFirm(a) || isNoDay(b) || isNoDay(c) ? BAD : gain(a, b, c);
            case 18: return fall(a, b);
            case 19: return feed(a, b, c);
            case 20: return a < 0 || a > tape.length ? BAD : (tape = Arrays.copyOf(tape, a)).length;
            case 21: return law(a);
            default: return later(number, a, b, c, d, more);
        }
    }

    private int later(int number, int a, int b, int c, int d, int... more) {
        switch (number) {
            case 22: return a < 1 || a > 9999 || b < 0 || b > 7 ? BAD : basket.size() == 8 ? FULL : putItem(a, b);
            case 23: return items(a, b);
            case 24: return empty();
            case 25: return promotion(a, b, c);
            case 26: return join(a, b, c);
            case 27: return mix(a);
            case 28: return mixed(a, b);
            case 29: return costs(a);
            case 30: return waiting.size() == 20 ? FULL : waiting.add(a) ? waiting.size() : 0;
            case 31: return check();
            case 32: return exchange(a, b, c, d);
            case 33: return hole(a, b);
            case 34: return guess(a, b);
            case 35: return !isShop(a) ? BAD : isBarred(a) ? 1 : 0;
            case 36: return setTries(a);
            case 37: return sheet(a, b);
            case 38: return mark(a, b, c);
            case 39: return copy(a, b, c, d, more[0]);
            default: return count(a);
        }
    }

    private boolean isFirm(int f) {
        return f >= 0 && f < firms;
    }

    private boolean isShop(int s) {
        return s >= 0 && s < shops.size();
    }

    private boolean isVoucher(int v) {
        return v >= 0 && v < vouchers.size();
    }

    private static boolean isNoDay(int d) {
        return d < 0 || d > 900;
    }

    private static boolean isNoSum(int s) {
        return s < 1 || s > 100000;
    }

    private int shop(int firm) {
        if (!isFirm(firm)) {
            return BAD;
        }
        if (shops.size() == 10) {
            return FULL;
        }
        shops.add(firm);
        return shops.size() - 1;
    }

    private int begin(int kind, int firm, int code, int term, int worth, int about) {
        List<Integer> kinds = List.of(0, 1, 2, 10, 11, 12, 20, 21, 22, 30, 31, 32);
        if (!kinds.contains(kind) || !isFirm(firm) || code < 0 || code > 9999 || term < 1 || term > 900
                || worth < 0 || worth > 100000 || about < 0 || about > today) {
            return BAD;
        }
        if (vouchers.size() == 30 || lines.size() == 100) {
            return FULL;
        }
        int n = vouchers.size();
        vouchers.add(new Voucher(n, kind / 10, kind % 10, firm, code, term, worth));
        return tellLine(0, n, NONE, worth, about);
    }

    private int isOf(int v, int kind) {
        if (!isVoucher(v) || kind < 0 || kind > 3) {
            return BAD;
        }
        int[] above = {-1, 0, 0, 2};
        for (int k = vouchers.get(v).kind; k >= 0; k = above[k]) {
            if (k == kind) {
                return 1;
            }
        }
        return 0;
    }

    private int tellLine(int kind, int voucher, int partner, int sum, int about) {
        if (!isVoucher(voucher) || about < 0 || about > today) {
            return BAD;
        }
        if (lines.size() == 100) {
            return FULL;
        }
        Line line = new Line();
        line.number = lines.size();
        line.kind = kind;
        line.voucher = voucher;
        line.partner = partner;
        line.sum = sum;
        line.about = about;
        line.told = today;
        lines.add(line);
        return line.number;
    }

    private int withdraw(int n) {
        if (n < 0 || n >= lines.size()) {
            return BAD;
        }
        if (lines.get(n).withdrawn != NONE) {
            return NO;
        }
        lines.get(n).withdrawn = today;
        return 1;
    }

    private int line(int n, int what) {
        if (n < 0 || n >= lines.size() || what < 0 || what > 6) {
            return BAD;
        }
        Line l = lines.get(n);
        return new int[] {l.kind, l.voucher, l.about, l.told, l.withdrawn, l.sum, l.partner}[what];
    }

    private PlainHall play(int day, int known) {
        states = new State[vouchers.size()];
        for (int i = 0; i < states.length; i++) {
            states[i] = new State();
        }
        idle = 0;
        sold = new int[5][5];
        List<Line> sorted = new ArrayList<>(lines);
        sorted.removeIf(l -> l.about > day || l.told > known || l.withdrawn != NONE && l.withdrawn <= known);
        sorted.sort(Comparator.comparingInt((Line l) -> l.about).thenComparingInt(l -> l.number));
        for (Line l : sorted) {
            idle += brings(l) ? 0 : 1;
        }
        return this;
    }

    private boolean brings(Line l) {
        State s = states[l.voucher];
        Voucher v = vouchers.get(l.voucher);
        if (l.kind == 0) {
            s.live = true;
            s.worth = v.worth;
            s.from = l.about;
            return true;
        }
        if (!s.live || (l.kind == 1 || l.kind == 3) && (ended(v, l.about) || s.worth < l.sum)) {
            return false;
        }
        State other = l.kind == 3 || l.kind == 5 && l.partner != NONE ? states[l.partner] : null;
        boolean sameFirm = other != null && vouchers.get(l.partner).firm == v.firm;
        if (l.kind == 5) {
            s.live = false;
            if (sameFirm && other.live && other.worth + s.worth <= 100000) {
                other.worth += s.worth;
            }
            return true;
        }
        if (l.kind == 3) {
            if (!sameFirm || !other.live || other.worth + l.sum > 100000) {
                return false;
            }
            s.worth -= l.sum;
            other.worth += l.sum;
            return true;
        }
        if (l.kind == 1) {
            s.worth -= l.sum;
            sold[shops.get(l.partner)][v.firm] += l.sum;
            return true;
        }
        if (s.worth + l.sum > 100000 || l.kind == 2 && v.kind != 1) {
            return false;
        }
        s.worth += l.sum;
        if (l.kind == 2) {
            s.from = l.about;
        } else {
            sold[shops.get(l.partner)][v.firm] -= l.sum;
        }
        return true;
    }

    private int says(int part, Voucher v, int a) {
        return laws[v.land].value(part, v.kind, states[v.number].worth, v.term, a, v.worth);
    }

    private int life(Voucher v) {
        return v.kind == 3 || laws[v.land] == null ? v.term : Math.max(v.term, says(0, v, 0));
    }

    private boolean ended(Voucher v, int day) {
        return (long) day > (long) states[v.number].from + life(v);
    }

    private int stands(int n, int day, int known, int what) {
        if (!isVoucher(n) || isNoDay(day) || isNoDay(known) || what < 0 || what > 4) {
            return BAD;
        }
        play(day, known);
        Voucher v = vouchers.get(n);
        State s = states[n];
        if (!s.live) {
            return NO;
        }
        boolean change = !ended(v, day) && s.worth > 0 && laws[v.land] != null && says(1, v, day - s.from) != 0;
        return new int[] {s.worth, ended(v, day) ? 1 : 0, life(v), s.from, change ? 1 : 0}[what];
    }

    private int gain(int firm, int day, int known) {
        play(day, known);
        int all = 0;
        for (Voucher v : vouchers) {
            State s = states[v.number];
            if (v.firm == firm && s.live && s.worth > 0) {
                int e = ended(v, day) ? s.worth : laws[v.land] == null ? 0 : says(2, v, day - s.from);
                all += e > s.worth ? s.worth : e < 0 ? 0 : e;
            }
        }
        return all;
    }

    private int fall(int n, int coin) {
        if (!isVoucher(n) || coin < 0 || coin > 1000000) {
            return BAD;
        }
        play(today, today);
        List<Voucher> these = new ArrayList<>();
        long all = 0;
        for (Voucher v : vouchers) {
            if (v.firm == vouchers.get(n).firm && states[v.number].live && !ended(v, today)) {
                these.add(v);
                all += states[v.number].worth;
            }
        }
        if (!these.contains(vouchers.get(n))) {
            return NO;
        }
        long[] gets = new long[these.size()];
        long left = coin;
        for (int i = 0; i < gets.length; i++) {
            long worth = states[these.get(i).number].worth;
            gets[i] = all == 0 ? 0 : BigInteger.valueOf(coin).multiply(BigInteger.valueOf(worth)).divide(BigInteger.valueOf(all)).longValue();
            gets[i] = Math.min(gets[i], worth);
            left -= gets[i];
        }
        for (int i = 0; i < gets.length; i++) {
            if (left > 0 && gets[i] < states[these.get(i).number].worth) {
                gets[i]++;
                left--;
            }
        }
        return (int) gets[these.indexOf(vouchers.get(n))];
    }

    private int feed(int a, int b, int c) {
        if (tape.length + 12 > 96) {
            return FULL;
        }
        byte[] more = java.nio.ByteBuffer.allocate(12).putInt(a).putInt(b).putInt(c).array();
        byte[] all = Arrays.copyOf(tape, tape.length + 12);
        System.arraycopy(more, 0, all, tape.length, 12);
        tape = all;
        return all.length;
    }

    private int law(int land) {
        byte[] text = tape;
        tape = new byte[0];
        if (land < 0 || land > 2) {
            return BAD;
        }
        PlainLaw law = new PlainLaw(text);
        if (law.fault >= 0) {
            return -100 - law.fault;
        }
        laws[land] = law;
        return law.leaves;
    }

    private int putItem(int price, int sort) {
        basket.add(new Item(price, sort));
        return basket.size();
    }

    private int items(int sort, int s) {
        if (sort < 0 || sort > 7 || s < 0 || s > 1) {
            return BAD;
        }
        if (sheets[s] == null) {
            return NOTHING;
        }
        int came = 0;
        for (short price : sheets[s]) {
            if (price >= 1 && price <= 9999 && basket.size() < 8) {
                putItem(price, sort);
                came++;
            }
        }
        return came;
    }

    private int empty() {
        int had = basket.size();
        basket.clear();
        return had;
    }

    private int promotion(int kind, int a, int b) {
        int[][] edges = {{1, 90, 0, 255}, {1, 9999, 0, 99999}, {2, 8, 0, 255}, {1, 99999, 1, 8}};
        if (kind < 0 || kind > 3 || a < edges[kind][0] || a > edges[kind][1] || b < edges[kind][2] || b > edges[kind][3]) {
            return BAD;
        }
        if (promotions.size() == 6) {
            return FULL;
        }
        promotions.add(new Promotion(kind, a, b));
        return promotions.size() - 1;
    }

    private int join(int one, int other, int on) {
        int n = promotions.size();
        if (one < 0 || one >= n || other < 0 || other >= n || one == other || on != 0 && on != 1) {
            return BAD;
        }
        int was = joining[one][other] ? 1 : 0;
        joining[one][other] = on == 1;
        joining[other][one] = on == 1;
        return was;
    }

    private boolean isMix(List<Integer> row) {
        for (int i = 0; i < row.size(); i++) {
            for (int j = 0; j < i; j++) {
                if (row.get(i).equals(row.get(j)) || !joining[row.get(i)][row.get(j)]) {
                    return false;
                }
            }
        }
        return true;
    }

    /** What all costs behind each number of promotions of a row. */
    private List<Integer> costsBy(List<Integer> row) {
        List<Integer> answer = new ArrayList<>();
        int[] cost = basket.stream().mapToInt(Item::price).toArray();
        int off = 0;
        answer.add(Arrays.stream(cost).sum());
        for (int n : row) {
            Promotion p = promotions.get(n);
            int all = Math.max(0, Arrays.stream(cost).sum() - off);
            List<Integer> ofSort = new ArrayList<>();
            for (int i = 0; i < cost.length; i++) {
                if (p.kind % 2 == 0 && (p.b & 1 << basket.get(i).sort) != 0) {
                    ofSort.add(i);
                }
            }
            if (p.kind == 0) {
                ofSort.forEach(i -> cost[i] = cost[i] - cost[i] * p.a / 100);
            } else if (p.kind == 1 && all >= p.b) {
                off += p.a;
            } else if (p.kind == 2 && ofSort.size() >= p.a) {
                ofSort.sort(Comparator.comparingInt(i -> cost[i]));
                cost[ofSort.get(0)] = 0;
            } else if (p.kind == 3 && cost.length >= p.b && all > p.a) {
                off += all - p.a;
            }
            answer.add(Math.max(0, Arrays.stream(cost).sum() - off));
        }
        return answer;
    }

    private void allMixes(List<Integer> row, List<List<Integer>> into) {
        if (!isMix(row)) {
            return;
        }
        into.add(row);
        for (int p = 0; p < promotions.size(); p++) {
            List<Integer> longer = new ArrayList<>(row);
            longer.add(p);
            allMixes(longer, into);
        }
    }

    private static int byNumbers(List<Integer> one, List<Integer> other) {
        for (int i = 0; i < one.size() && i < other.size(); i++) {
            if (!one.get(i).equals(other.get(i))) {
                return one.get(i) - other.get(i);
            }
        }
        return one.size() - other.size();
    }

    /** The mix, or null if the tries do not do. */
    private List<Integer> theMix(int most) {
        List<List<Integer>> all = new ArrayList<>();
        allMixes(new ArrayList<>(), all);
        if (all.size() - 1 > most) {
            return null;
        }
        List<Integer> best = all.get(0);
        int least = Integer.MAX_VALUE;
        for (List<Integer> row : all) {
            int cost = costsBy(row).get(row.size());
            boolean better = cost < least || cost == least && (row.size() < best.size()
                    || row.size() == best.size() && byNumbers(row, best) < 0);
            if (better) {
                best = row;
                least = cost;
            }
        }
        return best;
    }

    private int mix(int most) {
        if (most < 1 || most > 5000) {
            return BAD;
        }
        List<Integer> row = theMix(most);
        return row == null ? SPENT : costsBy(row).get(row.size());
    }

    private int mixed(int most, int i) {
        if (most < 1 || most > 5000 || i < 0) {
            return BAD;
        }
        List<Integer> row = theMix(most);
        return row == null ? SPENT : i < row.size() ? row.get(i) : NONE;
    }

    private int costs(int number) {
        if (number < 0) {
            return BAD;
        }
        List<Integer> row = new ArrayList<>();
        for (char c : (number == 0 ? "" : String.valueOf(number)).toCharArray()) {
            int p = c - '1';
            if (p < 0 || p >= promotions.size()) {
                return BAD;
            }
            row.add(p);
        }
        return isMix(row) ? costsBy(row).get(row.size()) : BAD;
    }

    private int check() {
        List<Integer> told = waiting;
        waiting = new ArrayList<>();
        List<Integer> row = theMix(5000);
        if (row == null) {
            return SPENT;
        }
        List<Integer> due = new ArrayList<>();
        for (int i = 0; i < row.size(); i++) {
            due.add(row.get(i));
            due.add(costsBy(row).get(i + 1));
        }
        if (due.equals(told)) {
            return 0;
        }
        int right = 0;
        while (right < due.size() && right < told.size() && due.get(right).equals(told.get(right))) {
            right++;
        }
        return 1 + right;
    }

    private int exchange(int from, int to, int p, int q) {
        if (from < 0 || from > 5 || to < 0 || to > 5 || from == to || p < 1 || p > 999 || q < 1 || q > 999) {
            return BAD;
        }
        if (exchanges.size() == 16) {
            return FULL;
        }
        exchanges.add(new Exchange(exchanges.size(), from, to, p, q));
        return exchanges.size() - 1;
    }

    private void allHoles(List<Exchange> row, int form, List<List<Integer>> into) {
        int at = row.isEmpty() ? form : row.get(row.size() - 1).to;
        if (!row.isEmpty() && at == form) {
            BigInteger p = BigInteger.ONE;
            BigInteger q = BigInteger.ONE;
            List<Integer> numbers = new ArrayList<>();
            for (Exchange e : row) {
                p = p.multiply(BigInteger.valueOf(e.p));
                q = q.multiply(BigInteger.valueOf(e.q));
                numbers.add(e.number);
            }
            if (p.compareTo(q) > 0) {
                into.add(numbers);
            }
            return;
        }
        for (Exchange e : exchanges) {
            boolean fresh = e.from == at && row.size() < 6 && row.stream().noneMatch(r -> r.to == e.to);
            if (fresh) {
                List<Exchange> longer = new ArrayList<>(row);
                longer.add(e);
                allHoles(longer, form, into);
            }
        }
    }

    private int hole(int form, int i) {
        if (form < 0 || form > 5 || i < 0) {
            return BAD;
        }
        List<List<Integer>> all = new ArrayList<>();
        allHoles(new ArrayList<>(), form, all);
        if (all.isEmpty()) {
            return NO;
        }
        all.sort((one, other) -> one.size() != other.size() ? one.size() - other.size() : byNumbers(one, other));
        return i < all.get(0).size() ? all.get(0).get(i) : NONE;
    }

    private boolean isBarred(int shop) {
        return guesses.stream().filter(g -> g.shop == shop && g.wild && today - g.day <= 6).count() > tries;
    }

    private int guess(int code, int shop) {
        if (code < 0 || code > 9999 || !isShop(shop)) {
            return BAD;
        }
        if (guesses.size() == 60) {
            return FULL;
        }
        play(today, today);
        int found = 0;
        String told = String.format("%04d", code);
        for (Voucher v : vouchers) {
            if (states[v.number].live) {
                String own = String.format("%04d", v.code);
                int same = 0;
                for (int i = 0; i < 4; i++) {
                    same += own.charAt(i) == told.charAt(i) ? 1 : 0;
                }
                found = Math.max(found, Math.max(0, same - 2));
            }
        }
        boolean no = found == 2 && isBarred(shop);
        guesses.add(new Guess(shop, today, found == 0));
        return no ? NO : found;
    }

    private int setTries(int v) {
        if (v < 0 || v > 9) {
            return BAD;
        }
        int was = tries;
        tries = v;
        return was;
    }

    private int sheet(int s, int n) {
        if (s < 0 || s > 1 || n > 16) {
            return BAD;
        }
        if (n < 0) {
            return SIZE;
        }
        sheets[s] = new short[n];
        return n;
    }

    private int mark(int s, int place, int v) {
        if (s < 0 || s > 1) {
            return BAD;
        }
        if (sheets[s] == null) {
            return NOTHING;
        }
        if (place < 0 || place >= sheets[s].length) {
            return INDEX;
        }
        int was = sheets[s][place];
        sheets[s][place] = (short) v;
        return was;
    }

    private int copy(int from, int place, int to, int at, int many) {
        if (from < 0 || from > 1 || to < 0 || to > 1) {
            return BAD;
        }
        if (sheets[from] == null || sheets[to] == null) {
            return NOTHING;
        }
        long last = (long) place + many;
        long lastTo = (long) at + many;
        if (many < 0 || place < 0 || at < 0 || last > sheets[from].length || lastTo > sheets[to].length) {
            return INDEX;
        }
        short[] were = sheets[from].clone();
        for (int i = 0; i < many; i++) {
            sheets[to][at + i] = were[place + i];
        }
        return many;
    }

    private int count(int what) {
        int withdrawn = (int) lines.stream().filter(l -> l.withdrawn != NONE).count();
        int[] all = {firms, shops.size(), vouchers.size(), lines.size(), withdrawn, basket.size(), promotions.size(),
            exchanges.size(), guesses.size(), today, waiting.size(), tape.length};
        return what < 0 || what >= all.length ? BAD : all[what];
    }
}
