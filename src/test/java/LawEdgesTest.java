import java.nio.charset.StandardCharsets;

/** The edges that the document names of the tape, of a law's text and of what it says. */
final class LawEdgesTest {
    private LawEdgesTest() {
    }

    public static void main(String[] args) {
        digits();
        blanks();
        tooSoon();
        everyByte();
        everyWord();
        brackets();
        nots();
        wholeTape();
        bytesOfNumbers();
        usedUp();
        behindFaults();
        lawAfterLaw();
        wraps();
        byNothing();
        truth();
        loosestFirst();
        names();
        life();
        change();
        gain();
        withoutLaw();
        Due.end("LawEdgesTest");
    }

    private static int read(String text) {
        return new Run().text(text).ask("law 1");
    }

    private static void reads(String text, int leaves) {
        Due.due("law of '" + text + "'", read(text), leaves);
    }

    private static void fault(String text, int place) {
        reads(text, -100 - place);
    }

    /** A NUMBER has 1 to 4 digits. */
    private static void digits() {
        for (int many = 1; many <= 6; many++) {
            for (String digit : new String[] {"0", "7", "9"}) {
                String number = digit.repeat(many);
                int due = many <= 4 ? 3 : -104;
                reads("end " + number + " change 1 gain 1", due);
                reads("end 1 change " + number + " gain 1", many <= 4 ? 3 : -113);
                reads("end 1 change 1 gain " + number, many <= 4 ? 3 : -120);
                reads("end(" + number + ")change 1 gain 1", due);
                reads("end 1+" + number + " change 1 gain 1", many <= 4 ? 4 : -106);
            }
        }
    }

    /** A word right behind another one needs a blank; between a word and a sign there may be one. */
    private static void blanks() {
        String[] words = {"end", "t", "change", "1", "gain", "b"};
        for (int glued = 0; glued + 1 < words.length; glued++) {
            StringBuilder text = new StringBuilder();
            int first = 0;
            int second = 0;
            for (int i = 0; i < words.length; i++) {
                first = i == glued ? text.length() : first;
                second = i == glued + 1 ? text.length() : second;
                text.append(words[i]).append(i == glued ? "" : " ");
            }
            boolean oneWord = Character.isLetter(words[glued].charAt(0)) == Character.isLetter(words[glued + 1].charAt(0));
            fault(text.toString(), oneWord ? first : second);
        }
        reads("end!t+1change 1", -107);
        reads("end(t)change(1)gain(b)", 3);
        reads("end ( t ) change ( 1 ) gain ( b )", 3);
        reads("end(t)change!1 gain!b", 3);
        reads("  end  t  change  1  gain  b  ", 3);
        reads("end t<1change 1 gain 1", -107);
        reads("end t <1 change 1 gain 1", 4);
        reads("end 1 2 change 1 gain 1", -106);
        reads("end 12 change 1 gain 1", 3);
        for (String other : new String[] {"\t", "\n", "\0", "\u00a0", "A", "_"}) {
            fault("end t" + other + "change 1 gain 1", 5);
            fault(other + "end t change 1 gain 1", 0);
            fault("end t change 1 gain 1" + other, 21);
        }
    }

    /** Every beginning of a law: the end comes too soon, or the last word is none yet. */
    private static void tooSoon() {
        for (String law : new String[] {"end t+1 change !(w<10) gain a/2", "  end  (k)  change  b  gain  9999*2  ", "end((t))change(1)gain(b|a&1)", States.LONGEST_LAW}) {
            for (int length = 0; length <= law.length(); length++) {
                likeModel(law.substring(0, length));
            }
        }
        fault("", 0);
        fault(" ", 1);
        fault(" ".repeat(96), 96);
        fault("end", 3);
        fault("end ", 4);
        fault("end t", 5);
        fault("end t change", 12);
        fault("end t change 1 gain", 19);
        fault("end t change 1 gain   ", 22);
        fault("end t change 1 gain (b", 22);
        fault("end t change 1 gain b+", 22);
        fault("end t change 1 gain !", 21);
        reads("end t change 1 gain b", 3);
    }

    private static void likeModel(String text) {
        PlainLaw plain = new PlainLaw(text.getBytes(StandardCharsets.ISO_8859_1));
        reads(text, plain.fault >= 0 ? -100 - plain.fault : plain.leaves);
    }

    /** Every byte in every place of a law, held against the model. */
    private static void everyByte() {
        for (String law : new String[] {"end t change(w<10)&!k gain a/2", "end 1234 change b|b gain (((((((((a"}) {
            for (int place = 0; place <= law.length(); place++) {
                for (int b = 0; b < 256; b++) {
                    likeModel(law.substring(0, place) + (char) b + law.substring(Math.min(law.length(), place + 1)));
                    likeModel(law.substring(0, place) + (char) b + law.substring(place));
                }
            }
        }
    }

    /** Every word and sign in every place of a law, instead of what stands there and ahead of it. */
    private static void everyWord() {
        String[] law = "end t + 1 change ! ( w < 10 ) gain a".split(" ");
        for (String other : "end change gain k w t a b c 0 1234 12345 ( ) ! | & < = > + - * / ? en endt".split(" ")) {
            for (int place = 0; place <= law.length; place++) {
                StringBuilder instead = new StringBuilder();
                StringBuilder more = new StringBuilder();
                for (int i = 0; i < law.length; i++) {
                    instead.append(i == place ? other : law[i]).append(' ');
                    more.append(i == place ? other + " " : "").append(law[i]).append(' ');
                }
                likeModel(instead.toString());
                likeModel(more.toString().trim());
            }
        }
        fault("t 1 change 1 gain 1", 0);
        fault("change 1 change 1 gain 1", 0);
        fault("end 1 end 1 gain 1", 6);
        fault("end 1 change 1 change 1", 15);
    }

    /** The ninth ( that would be open. */
    private static void brackets() {
        for (int many = 1; many <= 12; many++) {
            String open = "(".repeat(many);
            String close = ")".repeat(many);
            reads("end " + open + "1" + close + " change 1 gain 1", many <= 8 ? 3 : -112);
            reads("end 1 change " + open + "1" + close + " gain 1", many <= 8 ? 3 : -121);
            reads("end 1 change 1 gain " + open + "1" + close, many <= 8 ? 3 : -128);
            reads("end " + "(1)+".repeat(many) + "1 change 1 gain 1", 3 + many);
            fault("end " + open + "1" + close + ") change 1 gain 1", many <= 8 ? 5 + 2 * many : 12);
            fault("end " + open + "1" + close.substring(1) + " change 1 gain 1", many <= 8 ? 5 + 2 * many : 12);
        }
        reads("end ((((((((1))))))))+((((((((1)))))))) change ((((((((1)))))))) gain ((((((((1))))))))", 4);
        fault("end (((((((1+(1)+(1)+((1))))))))) change 1 gain 1", 22);
    }

    /** The ninth ! that would be open within one another. */
    private static void nots() {
        for (int many = 1; many <= 12; many++) {
            String nots = "!".repeat(many);
            reads("end " + nots + "1 change 1 gain 1", many <= 8 ? 3 : -112);
            reads("end 1 change " + nots + "(1) gain 1", many <= 8 ? 3 : -121);
            reads("end 1 change 1 gain " + nots + "a", many <= 8 ? 3 : -128);
            reads("end " + "!1+".repeat(many) + "1 change 1 gain 1", 3 + many);
        }
        reads("end !!!!!!!!1+!!!!!!!!1 change !!!!!!!!(!!!!!!!!1) gain 1", -140);
        reads("end !!!!!!!!(((((((((1", -120);
        reads("end !!!!!!!!((((((((1)))))))) change 1 gain 1", 3);
    }

    /** 96 bytes at most: a law of just so many. */
    private static void wholeTape() {
        Due.due("the longest law's bytes", States.LONGEST_LAW.length(), 96);
        reads(States.LONGEST_LAW, 18);
        fault(States.LONGEST_LAW.substring(0, 95) + " ", 96);
        fault(States.LONGEST_LAW.substring(0, 95) + "+", 95);
        fault(States.LONGEST_LAW.substring(0, 95) + "c", 95);
        reads("end t change 1 gain 1" + " ".repeat(75), 3);
        reads(" ".repeat(75) + "end t change 1 gain 1", 3);
        fault("end t change 1 gain 1" + " ".repeat(74) + "1", 95);
        Run run = new Run("firm", "begin 0 0 0 5 100 0").text(States.LONGEST_LAW).refused("feed 0 0 0", VoucherHall.FULL).due("law 0", 18);
        run.due("stands 0 0 0 2", 5).due("gain 0 0 0", 100).due("count 11", 0).due("feed 0 0 0", 12);
    }

    /** The highest byte of each number first, also of numbers below 0. */
    private static void bytesOfNumbers() {
        for (int place = 0; place < 12; place++) {
            for (int b : new int[] {0, 1, 127, 128, 255}) {
                char[] text = " ".repeat(12).toCharArray();
                text[place] = (char) b;
                fault(new String(text), place);
            }
        }
        new Run("feed " + 0x20202020 + " " + 0x20202020 + " " + 0x202020ff).due("law 0", -111);
        new Run("feed " + 0x20202020 + " " + 0x20202020 + " " + 0x202020ff, "trim 11").due("law 0", -111);
        new Run("feed " + 0x202020ff + " -1 -1").due("law 0", -103);
        new Run("feed " + 0xff202020 + " 0 0").due("law 0", -100);
    }

    private static void usedUp() {
        new Run().due("law 0", -100).due("law 0", -100).due("count 11", 0);
        new Run().text("end t change 1 gain 1").due("law 0", 3).due("count 11", 0).due("law 0", -100);
        new Run().text("end t change 1 gain").due("law 0", -119).due("count 11", 0).due("trim 1", VoucherHall.BAD).due("trim 0", 0);
        new Run().text("end t change 1 gain 1").due("law 3", VoucherHall.BAD).due("count 11", 0).due("law 0", -100);
        new Run().text("end 1 change 1 gain 12").does("trim 21").due("law 2", 3);
    }

    /** What a fault leaves open has no part in the next reading. */
    private static void behindFaults() {
        String right = "end((((((((t))))))))change !!!!!!!!1 gain b";
        for (String wrong : new String[] {"", "end", "end t t", "end t5", "end ((((((((", "end !!!!!!!!", "end (((((((((", "end !!!!!!!!!", "end 12345", "en", "end t change 1 gain 1 1",
            "end (t change 1 gain 1", "end !!!!(!!!!c"}) {
            new Run().text(wrong).due("law 0", read(wrong)).text(right).due("law 0", 3).text(wrong).due("law 1", read(wrong)).text(right).due("law 2", 3);
        }
    }

    /** Long laws and short ones by turns on one object: each says its own. */
    private static void lawAfterLaw() {
        Run run = new Run("firm", "begin 0 0 0 1 100 0", "begin 1 0 0 1 100 0");
        for (int i = 2; i <= 25; i++) {
            run.text("end 0-1+!0+!0-1+" + i + "*1 change !!" + i % 3 + " gain !!!!(1+!0)+1+1+" + i + "-1").due("law 0", 14);
            run.due("stands 0 0 0 2", i).due("stands 0 0 0 4", i % 3 == 0 ? 0 : 1).due("gain 0 0 0", 2 + i + (i == 2 ? 0 : 50 - i + 1));
            run.text("end " + i + " change " + i % 2 + " gain 50-" + i).due("law 1", 4).due("stands 1 0 0 2", i).due("stands 1 0 0 4", i % 2);
        }
        // Wherever a ! stood in the law ahead, the short one ends just there and must not take it over.
        for (String first : new String[] {"end !!!!!!!!1 change 1 gain 1", "end !1+!1+!1 change 1 gain 1", "end 1 change !!!!!!!!1 gain !!!!!!!!1"}) {
            for (String gain : new String[] {"7", "!0", "3+4", "3+!0", "3+4-!0"}) {
                Run two = new Run("firm", "begin 0 0 0 1 100 0").law(0, first).law(0, "end 5 change 1 gain " + gain);
                two.due("gain 0 0 0", gain.equals("!0") ? 1 : gain.equals("3+!0") ? 4 : gain.equals("3+4-!0") ? 6 : 7);
            }
        }
    }

    private static void value(String e, int want) {
        Run run = new Run("firm", "begin 0 0 0 1 50 0").law(0, "end " + e + " change 0 gain 0");
        Due.due("what '" + e + "' gives", run.ask("stands 0 0 0 2"), Math.max(1, want));
    }

    /* 8192*8192*32 is 2 to the 31st: the least int. */
    private static void wraps() {
        value("8192*8192*32-1", Integer.MAX_VALUE);
        value("8192*8192*31+8192*8191+8191", Integer.MAX_VALUE);
        value("(8192*8192*32<0)*50", 50);
        value("(8192*8192*32-1+1<0)*50", 50);
        value("(8192*8192*32-1>0)*50", 50);
        value("(8192*8192*32/(0-1)=8192*8192*32)*50", 50);
        value("(8192*8192*32*(0-1)<0)*50", 50);
        value("(0-8192*8192*32<0)*50", 50);
        value("8192*8192*64+7", 7);
        value("!(8192*8192*32)+7", 7);
        value("(8192*8192*32&1)+7", 8);
        value("(8192*8192*32-1)/9999", Integer.MAX_VALUE / 9999);
    }

    private static void byNothing() {
        value("7+5/0", 7);
        value("7+0/0", 7);
        value("7+8192*8192*32/0", 7);
        value("7+5/(1-1)*3", 7);
        value("100+7/2", 103);
        value("100+(0-7)/2", 97);
        value("100+7/(0-2)", 97);
        value("100+(0-7)/(0-2)", 103);
        value("100+(0-1)/2", 100);
        value("100+1/2", 100);
        value("100+w/50", 101);
        value("100+w/51", 100);
    }

    private static void truth() {
        value("7+!0", 8);
        value("7+!1", 7);
        value("7+!(0-1)", 7);
        value("7+!9999", 7);
        value("7+!!9999", 8);
        value("7+(9999&0-1)", 8);
        value("7+(9999&0)", 7);
        value("7+(0|0-1)", 8);
        value("7+(0|0)", 7);
        value("7+(w=50)", 8);
        value("7+(w<50)+(w>50)", 7);
        value("7+(w<51)+(w>49)", 9);
        value("7+(0-1<0)", 8);
        value("7+(1/0|5/0)", 7);
        value("7+(0&1/0)", 7);
    }

    /** E, the loosest first: | & tests + * and then !; of one kind from the left. */
    private static void loosestFirst() {
        value("7+(1|0&0)", 8);
        value("7+((1|0)&0)", 7);
        value("7+(0&0|1)", 8);
        value("7+(0&5)", 7);
        value("7+(1&5)", 8);
        value("7+(5&0)", 7);
        value("7+(1&0=0)", 8);
        value("7+(2=1+1)", 8);
        value("7+2*3", 13);
        value("7*2+3", 17);
        value("!0*7+1", 8);
        value("!0+7", 8);
        value("!1*7+3", 3);
        value("20-5-4", 11);
        value("40/4/2", 5);
        value("40/4*2", 20);
        value("2*40/7", 11);
        value("20-5+4", 19);
    }

    /** k, w, t, a and b, each by itself, of a voucher for which they all differ. */
    private static void names() {
        String[][] due = {{"k", "2"}, {"w", "70"}, {"t", "33"}, {"a", "4"}, {"b", "90"}};
        for (String[] d : due) {
            Run run = new Run("firm", "firm", "shop 0", "days 9", "begin 21 0 0 33 90 5", "begin 21 1 0 33 90 5", "spend 0 0 20 6");
            run.law(1, "end 100+" + d[0] + " change " + d[0] + "=" + d[1] + " gain " + d[0]);
            int value = Integer.parseInt(d[1]);
            run.due("stands 0 9 9 2", 100 + (d[0].equals("a") ? 0 : value)).due("stands 0 9 9 4", 1).due("gain 0 9 9", Math.min(70, value));
        }
    }

    /** The greater one of TERM and what E gives; of PROMISES TERM alone; a is 0. */
    private static void life() {
        for (int kind = 0; kind <= 3; kind++) {
            for (int e = 0; e <= 12; e++) {
                Run run = new Run("firm", "days 3", "begin " + 10 * kind + " 0 0 6 50 3").law(0, "end " + e + "+a change 0 gain 0");
                int due = kind == 3 ? 6 : Math.max(6, e);
                run.due("stands 0 900 3 2", due).due("stands 0 " + (3 + due) + " 3 1", 0).due("stands 0 " + (4 + due) + " 3 1", 1);
            }
        }
        new Run("firm", "begin 0 0 0 900 50 0").law(0, "end 899 change 0 gain 0").due("stands 0 900 0 2", 900).due("stands 0 900 0 1", 0);
        new Run("firm", "begin 0 0 0 1 50 0").law(0, "end 8192*8192*32-1 change 0 gain 0").due("stands 0 900 0 1", 0);
        new Run("firm", "begin 0 0 0 1 50 0").law(0, "end 8192*8192*32 change 0 gain 0").due("stands 0 1 0 1", 0).due("stands 0 2 0 1", 1);
        new Run("firm", "begin 0 0 0 1 50 0").law(0, "end 0-1 change 0 gain 0").due("stands 0 0 0 2", 1).due("stands 0 2 0 1", 1);
    }

    /** Of what is LIVE, not ENDED, with WORTH, if E is not 0. */
    private static void change() {
        String[][] due = {{"0", "0"}, {"1", "1"}, {"0-1", "1"}, {"9999", "1"}, {"8192*8192*32", "1"}, {"8192*8192*64", "0"}, {"a", "0"}, {"a=0", "1"}, {"w-1", "0"}, {"b-w", "1"}};
        for (String[] d : due) {
            new Run("firm", "shop 0", "begin 0 0 0 5 2 0", "spend 0 0 1 0").law(0, "end 0 change " + d[0] + " gain 0").due("stands 0 0 0 4", Integer.parseInt(d[1]));
        }
        Run run = new Run("firm", "shop 0", "begin 0 0 0 5 2 0").law(0, "end 0 change 1 gain 0").due("stands 0 5 0 4", 1).due("stands 0 6 0 4", 0);
        run.does("spend 0 0 1 0").due("stands 0 5 0 4", 1).does("spend 0 0 1 0").due("stands 0 5 0 4", 0).due("stands 0 6 0 4", 0).does("lose 0 NONE 0").due("stands 0 0 0 4", VoucherHall.NO);
        Run days = new Run("firm", "days 2", "begin 0 0 0 900 2 2").law(0, "end 0 change a=898 gain 0").due("stands 0 899 2 4", 0).due("stands 0 900 2 4", 1);
        days.due("stands 0 2 2 4", 0);
    }

    /** WORTH at most, 0 at least; of ENDED ones all WORTH. */
    private static void gain() {
        String[][] due = {{"0-1", "0"}, {"0", "0"}, {"1", "1"}, {"49", "49"}, {"50", "50"}, {"51", "50"}, {"8192*8192*32-1", "50"}, {"8192*8192*32", "0"}, {"a", "0"}, {"a+w", "50"}, {"b-1", "50"}};
        for (String[] d : due) {
            Run run = new Run("firm", "shop 0", "begin 30 0 0 5 60 0", "spend 0 0 10 0").law(0, "end 0 change 0 gain " + d[0]).due("gain 0 0 0", Integer.parseInt(d[1]));
            run.due("gain 0 6 0", 50);
        }
        Run run = new Run("firm", "begin 0 0 0 5 60 0", "begin 0 0 0 6 7 0", "begin 0 0 0 6 0 0").law(0, "end 0 change 0 gain a-5").due("gain 0 5 0", 0);
        run.due("gain 0 6 0", 61).due("gain 0 7 0", 67).does("lose 1 2 0").due("gain 0 7 0", 67).does("lose 0 NONE 0").due("gain 0 7 0", 7).due("gain 0 6 0", 1);
        new Run("firm").times(30, "begin 0 0 0 1 100000 0").due("gain 0 1 0", 0).due("gain 0 2 0", 3000000);
    }

    /** Without a LAW: TERM alone, no CHANGE, no GAIN but of ENDED ones; LANDS have their own. */
    private static void withoutLaw() {
        for (int land = 0; land <= 2; land++) {
            Run run = new Run("firm", "begin 0 0 0 5 9 0", "begin 1 0 0 5 9 0", "begin 2 0 0 5 9 0").law(land, "end 6 change 1 gain 2");
            for (int voucher = 0; voucher <= 2; voucher++) {
                int own = voucher == land ? 1 : 0;
                run.due("stands " + voucher + " 0 0 2", 5 + own).due("stands " + voucher + " 0 0 4", own);
            }
            run.due("gain 0 5 0", 2).due("gain 0 6 0", 20).due("gain 0 7 0", 27).text("end").due("law " + land, -103).due("gain 0 5 0", 2);
        }
    }
}
