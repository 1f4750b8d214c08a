import java.util.ArrayList;
import java.util.List;

/** Questions that show a part of an object's state; asked last, for some of them change it. */
final class View {
    static final List<View> ALL = List.of(lines(0, 1), lines(2, 3), lines(4, 5), lines(6, 6), standing(20), standing(900), firms(), baskets(),
        exchangesAndGuesses(), sheets(), tape(), waiting(), more());

    final List<String> questions = new ArrayList<>();

    private View ask(String question) {
        questions.add(question);
        return this;
    }

    private View counts() {
        for (int what = 0; what <= 11; what++) {
            ask("count " + what);
        }
        return this;
    }

    private static View lines(int from, int to) {
        View view = new View().counts();
        for (int line = 0; line < 100; line++) {
            for (int what = from; what <= to; what++) {
                view.ask("line " + line + " " + what);
            }
        }
        return view;
    }

    private static View standing(int day) {
        View view = new View();
        for (int voucher = 0; voucher < 30; voucher++) {
            for (int what = 0; what <= 4; what++) {
                view.ask("stands " + voucher + " " + day + " " + day + " " + what);
            }
        }
        return view;
    }

    private static View firms() {
        View view = new View().ask("idle 20 20").ask("idle 900 900").ask("idle 900 10").ask("idle 10 900");
        for (int firm = 0; firm < 5; firm++) {
            view.ask("gain " + firm + " 20 20").ask("gain " + firm + " 900 900");
            for (int other = 0; other < firm; other++) {
                view.ask("owes " + firm + " " + other + " 900 900");
            }
        }
        for (int voucher = 0; voucher < 30; voucher++) {
            view.ask("fall " + voucher + " 101").ask("isOf " + voucher + " 1").ask("isOf " + voucher + " 2");
        }
        return view;
    }

    private static View baskets() {
        View view = new View().counts().ask("costs 0").ask("mix 5000").ask("mix 20");
        for (int i = 0; i < 7; i++) {
            view.ask("mixed 5000 " + i);
        }
        for (int one = 1; one <= 6; one++) {
            view.ask("costs " + one);
            for (int other = 1; other <= 6; other++) {
                view.ask("costs " + one + other);
            }
        }
        return view.ask("empty");
    }

    private static View exchangesAndGuesses() {
        View view = new View();
        for (int form = 0; form < 6; form++) {
            for (int i = 0; i < 7; i++) {
                view.ask("hole " + form + " " + i);
            }
        }
        for (int allowed = 0; allowed <= 9; allowed++) {
            for (int shop = 0; shop < 10; shop++) {
                view.ask("barred " + shop);
            }
            view.ask("tries " + allowed);
        }
        return view;
    }

    private static View sheets() {
        View view = new View();
        for (int sheet = 0; sheet < 2; sheet++) {
            for (int place = 0; place <= 16; place++) {
                view.ask("mark " + sheet + " " + place + " 1");
            }
        }
        return view;
    }

    private static View tape() {
        View view = new View().ask("count 11").ask("law 1").ask("count 11");
        for (int voucher = 0; voucher < 30; voucher++) {
            view.ask("stands " + voucher + " 900 900 2");
        }
        return view.ask("gain 0 20 20").ask("gain 1 20 20");
    }

    private static View waiting() {
        return new View().ask("count 10").ask("check").ask("count 10");
    }

    /** One more of everything: whether there is room, and where it comes to stand. */
    private static View more() {
        View view = new View().ask("firm").ask("shop 0").ask("begin 10 0 4321 900 50 0").ask("spend 0 0 1 0").ask("load 1 1 0").ask("lose 2 1 0");
        view.ask("item 777 7").ask("promotion 1 3 0").ask("tell 5").ask("exchange 5 4 3 2").ask("guess 9876 0").ask("feed 1 2 3").ask("days 1");
        return view.counts().ask("idle 900 900").ask("stands 0 900 900 0").ask("stands 1 900 900 0").ask("costs 0").ask("hole 5 0");
    }
}
