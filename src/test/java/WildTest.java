import java.util.Random;

/** Wild arguments in any state: no call throws, all end, none makes anything, and refused calls change nothing. */
final class WildTest {
    private static final int[] EDGES = {Integer.MIN_VALUE, Integer.MIN_VALUE + 1, Integer.MAX_VALUE, Integer.MAX_VALUE - 1, -1, 0, 1, 2, 3, 4, 5, 6, 7, 8, 9,
        10, 16, 17, 30, 31, 32, 33, 96, 97, 100, 101, 900, 901, 999, 1000, 5000, 5001, 9999, 10000, 100000, 100001, VoucherHall.NONE, VoucherHall.BAD};

    private WildTest() {
    }

    public static void main(String[] args) {
        for (int seed = 0; seed < 400; seed++) {
            wildRun(new Random(seed), seed);
        }
        deepLaws();
        room();
        Due.end("WildTest");
    }

    private static int wild(Random random) {
        switch (random.nextInt(3)) {
            case 0: return EDGES[random.nextInt(EDGES.length)];
            case 1: return random.nextInt(12);
            default: return random.nextInt() >> random.nextInt(32);
        }
    }

    private static void wildRun(Random random, int seed) {
        VoucherHall x = Hall.withFirms(seed % 6);
        for (int i = 0; i < 1000; i++) {
            int number = 2 + random.nextInt(39);
            int[] ahead = counts(x);
            int answer = Face.call(x, number, wild(random), wild(random), wild(random), wild(random), wild(random), wild(random));
            boolean told = number == 19 || number == 21 || number == 31 || number == 34 || number == 38;
            if (answer <= VoucherHall.BAD && !told) {
                Due.holds("seed " + seed + ": a refused " + number + " changes nothing", java.util.Arrays.equals(ahead, counts(x)));
            }
        }
    }

    private static int[] counts(VoucherHall x) {
        int[] all = new int[12];
        for (int what = 0; what < 12; what++) {
            all[what] = x.count(what);
        }
        return all;
    }

    private static void deepLaws() {
        String[] texts = {"(".repeat(96), "!".repeat(96), "end " + "(!".repeat(46), "end " + "(1+".repeat(30), "end " + "!(".repeat(8) + "1" + ")".repeat(8) + " change 1 gain 1",
            "end " + "1".repeat(92), "end " + "a+".repeat(46), " ".repeat(96), "end a change a gain " + "a*".repeat(37) + "a"};
        for (String text : texts) {
            VoucherHall x = Hall.withFirms(1);
            x.begin(0, 0, 0, 1, 9, 0);
            Due.holds("'" + text + "' ends", Hall.law(x, 0, text) != VoucherHall.BAD);
            Due.holds("and can be asked", x.gain(0, 1, 1) >= 0 && x.stands(0, 1, 1, 4) >= 0);
        }
    }

    /** One object's calls make nothing new: all rows are made with the object. */
    private static void room() {
        com.sun.management.ThreadMXBean threads = (com.sun.management.ThreadMXBean) java.lang.management.ManagementFactory.getThreadMXBean();
        long least = Long.MAX_VALUE;
        for (int round = 0; round < 5; round++) {
            VoucherHall x = Hall.withFirms(5);
            Random random = new Random(7);
            int[] numbers = new int[512 * 7];
            for (int i = 0; i < numbers.length; i++) {
                numbers[i] = i % 7 == 0 ? 2 + random.nextInt(39) : random.nextInt(9);
            }
            long ahead = threads.getThreadAllocatedBytes(Thread.currentThread().getId());
            for (int i = 0; i < numbers.length; i += 7) {
                Face.call(x, numbers[i], numbers[i + 1], numbers[i + 2], numbers[i + 3], numbers[i + 4], numbers[i + 5], numbers[i + 6]);
            }
            least = Math.min(least, threads.getThreadAllocatedBytes(Thread.currentThread().getId()) - ahead);
        }
        Due.holds("512 calls made " + least + " bytes", least < 4096);
    }
}
