/** Promises 19 to 21: the tape and the laws. */
final class LawsTest {
    private static final int BAD = VoucherHall.BAD, FULL = VoucherHall.FULL;

    private LawsTest() {
    }

    public static void main(String[] args) {
        feed();
        trim();
        law();
        leaves();
        faults();
        depth();
        allBytes();
        values();
        names();
        lifeOfKinds();
        Due.end("LawsTest");
    }

    private static void feed() {
        VoucherHall x = new VoucherHall();
        for (int i = 1; i <= 8; i++) {
            Due.due("19: feed", x.feed(i, -i, Integer.MIN_VALUE), 12 * i);
        }
        Due.due("19: FULL", x.feed(0, 0, 0), FULL);
        Due.due("19: stays", x.count(11), 96);
        Due.due("19: 85", x.trim(85), 85);
        Due.due("19: FULL", x.feed(0, 0, 0), FULL);
        Due.due("19: 84", x.trim(84), 84);
        Due.due("19: feed", x.feed(0, 0, 0), 96);
    }

    private static void trim() {
        VoucherHall x = new VoucherHall();
        Due.due("20: 0", x.trim(0), 0);
        Due.due("20: 1 of 0", x.trim(1), BAD);
        x.feed(0, 0, 0);
        Due.due("20: -1", x.trim(-1), BAD);
        Due.due("20: 13", x.trim(13), BAD);
        Due.due("20: 12", x.trim(12), 12);
        Due.due("20: 5", x.trim(5), 5);
        Due.due("20: count", x.count(11), 5);
        Hall.feed(new VoucherHall(), "");
        VoucherHall y = new VoucherHall();
        y.feed(0x656e6420, 0x74206368, 0x616e6765);
        y.trim(6);
        y.feed(0x6368616e, 0x67652061, 0x20676169);
        y.feed(0x6e206100, 0, 0);
        y.trim(21);
        Due.due("20: the first bytes stay", y.law(0), 3);
    }

    private static void law() {
        VoucherHall x = Hall.withFirms(1);
        x.begin(0, 0, 0, 5, 50, 0);
        x.begin(1, 0, 0, 5, 50, 0);
        x.begin(2, 0, 0, 5, 50, 0);
        Hall.feed(x, "end 7 change 1 gain 2");
        Due.due("21: land -1", x.law(-1), BAD);
        Due.due("21: the tape is used up", x.count(11), 0);
        Hall.feed(x, "end 7 change 1 gain 2");
        Due.due("21: land 3", x.law(3), BAD);
        Due.due("21: land first, then the text", Hall.law(x, 3, "?"), BAD);
        Due.due("21: law", Hall.law(x, 2, "end 7 change 1 gain 2"), 3);
        Due.due("21: the tape is used up", x.count(11), 0);
        Due.due("21: land 0 has none", x.stands(0, 0, 0, 2), 5);
        Due.due("21: land 1 has none", x.stands(1, 0, 0, 2), 5);
        Due.due("21: land 2", x.stands(2, 0, 0, 2), 7);
        Due.due("21: fault", Hall.law(x, 2, "end 9 change 1 gain"), -119);
        Due.due("21: the tape is used up", x.count(11), 0);
        Due.due("21: the law stays", x.stands(2, 0, 0, 2), 7);
        Due.due("21: change stays", x.stands(2, 0, 0, 4), 1);
        Due.due("21: gain stays", x.gain(0, 0, 0), 2);
        Due.due("21: another one", Hall.law(x, 2, "end 9 change 0 gain 3"), 3);
        Due.due("21: life", x.stands(2, 0, 0, 2), 9);
        Due.due("21: change", x.stands(2, 0, 0, 4), 0);
        Due.due("21: gain", x.gain(0, 0, 0), 3);
    }

    private static void leaves() {
        reads("end 1 change 2 gain 3", 3);
        reads("   end   t   change   w   gain   b   ", 3);
        reads("end(k)change(a)gain(b)", 3);
        reads("end!k change!a gain!b", 3);
        reads("end 0000 change 9999 gain 12", 3);
        reads("end t+1-2*3/4<5&6|7 change a gain a", 10);
        reads("end a<b|a=b&a>b change a gain a", 8);
        reads("end (a<b)<b change a gain a", 5);
        reads("end !!!!!!!!1 change 1 gain !!!!!!!!1&!!!!!!!!1", 4);
        reads("end ((((((((1)))))))) change 1 gain ((((((((1))))))))", 3);
        reads("end t change a gain 1-1-1-1-1-1-1-1-1-1-1-1-1-1-1-1-1-1-1-1-1-1-1-1-1-1-1-1-1-1-1-1-1-1-1-1-1-1", 40);
    }

    private static void reads(String text, int leaves) {
        Due.due("21: '" + text + "'", Hall.law(new VoucherHall(), 1, text), leaves);
    }

    private static void faults() {
        fault("", 0);
        fault("   ", 3);
        fault("en", 0);
        fault("ends 1", 0);
        fault("End 1", 0);
        fault("  change", 2);
        fault("1", 0);
        fault("end", 3);
        fault("end ", 4);
        fault("end1 change 1 gain 1", 3);
        fault("endt change 1 gain 1", 0);
        fault("end 1change 1 gain 1", 5);
        fault("end 1 change1 gain 1", 12);
        fault("end 1 change 1gain 1", 14);
        fault("end 1 change 1 gain1", 19);
        fault("end 1 change 1 gain 1 ;", 22);
        fault("end 1 change 1 gain 1 end", 22);
        fault("end 1 change 1 gain 1 1", 22);
        fault("end 1 gain 1 change 1", 6);
        fault("end 1 end 1", 6);
        fault("end change 1 gain 1", 4);
        fault("end 12345 change 1 gain 1", 4);
        fault("end 00000 change 1 gain 1", 4);
        fault("end c change 1 gain 1", 4);
        fault("end kk change 1 gain 1", 4);
        fault("end t5 change 1 gain 1", 5);
        fault("end 5t change 1 gain 1", 5);
        fault("end t t change 1 gain 1", 6);
        fault("end a<b<a change 1 gain 1", 7);
        fault("end a<=b change 1 gain 1", 6);
        fault("end a&&b change 1 gain 1", 6);
        fault("end -a change 1 gain 1", 4);
        fault("end a+ change 1 gain 1", 7);
        fault("end () change 1 gain 1", 5);
        fault("end (a change 1 gain 1", 7);
        fault("end a) change 1 gain 1", 5);
        fault("end (a", 6);
        fault("end ((a)", 8);
        fault("end (a  ", 8);
        fault("end a!b change 1 gain 1", 5);
        fault("end a ! change 1 gain 1", 6);
        fault("end ! change 1 gain 1", 6);
        fault("end a(b) change 1 gain 1", 5);
        fault("end a\tchange 1 gain 1", 5);
        fault("end a change", 12);
        fault("end a change b ", 15);
        fault("end a change b gain", 19);
        fault("end a change b gain b*", 22);
        fault("end a change b gai", 15);
        fault("end a chang", 6);
    }

    private static void fault(String text, int place) {
        Due.due("21: '" + text + "'", Hall.law(new VoucherHall(), 1, text), -100 - place);
    }

    private static void depth() {
        fault("end (((((((((1))))))))) change 1 gain 1", 12);
        fault("end !!!!!!!!!1 change 1 gain 1", 12);
        fault("end !!!!(!!!!(!1)) change 1 gain 1", 14);
        reads("end !!!!(!!!!(1)) change 1 gain 1", 3);
        fault("end ((((!((((!(1", 14);
        reads("end !(!(!(!(!(!(!(!(1)))))))) change 1 gain 1", 3);
        reads("end (((1)+((((((2)))))))) change (1)+(1)+(1)+(1)+(1)+(1)+(1)+(1)+(1)+(1) gain 1", 13);
        fault("end (((1)+(((((((2))))))))) change 1 gain 1", 16);
    }

    /* No byte but those of the words goes on behind a NAME. */
    private static void allBytes() {
        for (int b = 0; b < 256; b++) {
            String text = "end t" + (char) b + " 1 change 1 gain 1";
            boolean work = "|&<=>+-*/".indexOf(b) >= 0;
            int place = b == ' ' ? 7 : b >= 'a' && b <= 'z' ? 4 : 5;
            Due.due("21: byte " + b + " behind a NAME", Hall.law(new VoucherHall(), 0, text), work ? 4 : -100 - place);
            String one = "end " + (char) b + " change 1 gain 1";
            boolean leaf = "kwtab0123456789".indexOf(b) >= 0;
            int fault = b == ' ' || b == '!' || b == '(' ? 6 : 4;
            Due.due("21: byte " + b + " as a PART", Hall.law(new VoucherHall(), 0, one), leaf ? 3 : -100 - fault);
        }
    }

    private static void values() {
        value("2+3*4", 14);
        value("(2+3)*4", 20);
        value("20-5-4", 11);
        value("40/4/2", 5);
        value("40/4*2", 20);
        value("7/2", 3);
        value("(0-7)/2+100", 97);
        value("7/(0-2)+100", 97);
        value("7/0+100", 100);
        value("0/0+100", 100);
        value("(1<2)*50+(2<2)*7+(3<2)*8", 50);
        value("(1>2)*50+(2>2)*7+(3>2)*8", 8);
        value("(1=2)*50+(2=2)*7+(3=2)*8", 7);
        value("10+(5&6)", 11);
        value("10+(5&0)", 10);
        value("10+(0|6)", 11);
        value("10+(0|0)", 10);
        value("10+!7", 10);
        value("10+!0", 11);
        value("10+!!7", 11);
        value("10*!(1=2)+3", 13);
        value("10+(1|0&0)", 11);
        value("10+((1|0)&0)", 10);
        value("10+(0&1|1)", 11);
        value("10+(1+1=2)", 11);
        value("10+(2=1+1&3)", 11);
        value("10+(0-1&0-1)", 11);
        value("9999*9999*9999*9999/9999", 9999 * 9999 * 9999 * 9999 / 9999);
        value("9999*9999*22", 9999 * 9999 * 22);
        value("8192*8192*32/(0-1)+2000/20*8+(0-1)*0", 1);
        value("!5+7", 7);
        value("0007", 7);
    }

    private static void value(String e, int want) {
        Due.due("2: '" + e + "'", Hall.value(e, 50), Math.max(1, want));
    }

    private static void names() {
        VoucherHall x = Hall.withFirms(1);
        x.days(9);
        x.begin(22, 0, 0, 33, 70, 4);
        x.spend(0, 0, 20, 5);
        Hall.law(x, 2, "end 100+k*1+a*7+0 change a=3 gain a");
        Due.due("2: k, and a 0", x.stands(0, 8, 9, 2), 102);
        Due.due("2: a", x.stands(0, 7, 9, 4), 1);
        Due.due("2: a", x.stands(0, 8, 9, 4), 0);
        Due.due("2: a", x.gain(0, 8, 9), 4);
        Hall.law(x, 2, "end w*100+b change w=50&b=70&t=33&k=2 gain t");
        Due.due("2: w and b", x.stands(0, 4, 9, 2), 7070);
        Due.due("2: w as it is by then", x.stands(0, 5, 9, 2), 5070);
        Due.due("2: change", x.stands(0, 4, 9, 4), 0);
        Due.due("2: change", x.stands(0, 5, 9, 4), 1);
        Due.due("2: gain", x.gain(0, 5, 9), 33);
        Hall.law(x, 2, "end b-w change 1 gain w-b");
        Due.due("2: TERM is greater", x.stands(0, 9, 9, 2), 33);
        Due.due("2: below 0", x.gain(0, 9, 9), 0);
    }

    private static void lifeOfKinds() {
        VoucherHall x = Hall.withFirms(1);
        Hall.law(x, 0, "end 10 change 1 gain 1");
        for (int kind = 0; kind < 4; kind++) {
            x.begin(10 * kind, 0, 0, 3, 5, 0);
            Due.due("2: life of kind " + kind, x.stands(kind, 0, 0, 2), kind == 3 ? 3 : 10);
            Due.due("2: change of kind " + kind, x.stands(kind, 3, 0, 4), 1);
            Due.due("2: ended of kind " + kind, x.stands(kind, 10, 0, 1), kind == 3 ? 1 : 0);
            Due.due("2: ended of kind " + kind, x.stands(kind, 11, 0, 1), 1);
        }
        x.days(11);
        x.load(1, 1, 11);
        Due.due("2: loaded behind its end", x.stands(1, 11, 11, 1), 0);
        x.spend(1, 0, 6, 11);
    }
}
