/** Ways to bring a hall into a state that a test needs. */
final class Hall {
    private Hall() {
    }

    /** A hall with so many firms, each with one shop of the same number. */
    static VoucherHall withFirms(int many) {
        VoucherHall x = new VoucherHall();
        for (int i = 0; i < many; i++) {
            x.firm();
            x.shop(i);
        }
        return x;
    }

    /** Puts a text on the tape, which is empty. */
    static void feed(VoucherHall x, String text) {
        for (int at = 0; at < text.length(); at += 12) {
            x.feed(four(text, at), four(text, at + 4), four(text, at + 8));
        }
        x.trim(text.length());
    }

    static int law(VoucherHall x, int land, String text) {
        feed(x, text);
        return x.law(land);
    }

    static int four(String text, int at) {
        int number = 0;
        for (int i = at; i < at + 4; i++) {
            number = number << 8 | (i < text.length() ? text.charAt(i) : 0);
        }
        return number;
    }

    /** What a law's end gives for a voucher of kind 0, land 0, term 1, and a worth: the LIFE, if that is above 1. */
    static int value(String e, int worth) {
        VoucherHall x = withFirms(1);
        law(x, 0, "end " + e + " change 0 gain 0");
        x.begin(0, 0, 0, 1, worth, 0);
        return x.stands(0, 0, 0, 2);
    }
}
