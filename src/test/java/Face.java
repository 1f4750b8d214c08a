/** The face by the numbers of its promises, for tests that choose a call by chance. */
final class Face {
    /* The first name stands at number 2: promise 1 is the constructor. */
    private static final String[] NAMES = ("firm shop days begin isOf spend load split back lose withdraw line stands idle owes gain fall feed trim law "
        + "item items empty promotion join mix mixed costs tell check exchange hole guess barred tries sheet mark copy count").split(" ");

    private Face() {
    }

    static int number(String name) {
        for (int i = 0; i < NAMES.length; i++) {
            if (NAMES[i].equals(name)) {
                return i + 2;
            }
        }
        throw new IllegalArgumentException("no call " + name);
    }

    /** A call that is told as a text: "spend 0 1 20 0"; NONE, MIN and MAX stand for their numbers. */
    static int call(VoucherHall x, String told) {
        String[] words = told.trim().split(" +");
        int[] args = new int[6];
        for (int i = 1; i < words.length; i++) {
            args[i - 1] = value(words[i]);
        }
        return call(x, number(words[0]), args[0], args[1], args[2], args[3], args[4], args[5]);
    }

    private static int value(String word) {
        switch (word) {
            case "NONE": return VoucherHall.NONE;
            case "MIN": return Integer.MIN_VALUE;
            case "MAX": return Integer.MAX_VALUE;
            default: return Integer.parseInt(word);
        }
    }

    static int call(VoucherHall x, int number, int a, int b, int c, int d, int e, int f) {
        switch (number) {
            case 2: return x.firm();
            case 3: return x.shop(a);
            case 4: return x.days(a);
            case 5: return x.begin(a, b, c, d, e, f);
            case 6: return x.isOf(a, b);
            case 7: return x.spend(a, b, c, d);
            case 8: return x.load(a, b, c);
            case 9: return x.split(a, b, c, d);
            case 10: return x.back(a, b, c, d);
            case 11: return x.lose(a, b, c);
            case 12: return x.withdraw(a);
            case 13: return x.line(a, b);
            case 14: return x.stands(a, b, c, d);
            case 15: return x.idle(a, b);
            case 16: return x.owes(a, b, c, d);
            case 17: return x.gain(a, b, c);
            case 18: return x.fall(a, b);
            case 19: return x.feed(a, b, c);
            case 20: return x.trim(a);
            case 21: return x.law(a);
            case 22: return x.item(a, b);
            case 23: return x.items(a, b);
            case 24: return x.empty();
            case 25: return x.promotion(a, b, c);
            case 26: return x.join(a, b, c);
            case 27: return x.mix(a);
            case 28: return x.mixed(a, b);
            case 29: return x.costs(a);
            case 30: return x.tell(a);
            case 31: return x.check();
            case 32: return x.exchange(a, b, c, d);
            case 33: return x.hole(a, b);
            case 34: return x.guess(a, b);
            case 35: return x.barred(a);
            case 36: return x.tries(a);
            case 37: return x.sheet(a, b);
            case 38: return x.mark(a, b, c);
            case 39: return x.copy(a, b, c, d, e);
            default: return x.count(a);
        }
    }
}
