import java.util.ArrayDeque;
import java.util.ArrayList;
import java.util.Deque;
import java.util.List;

/** A law, read by states and two stacks instead of by descent, to be held against the program's own reading. */
final class PlainLaw {
    /** Each part in the order in which its steps are worked. */
    final List<List<String>> parts = new ArrayList<>();
    int leaves = 0;
    int fault = -1;

    private record Word(String text, int place, boolean glued) {
    }

    private static final String[] HEADS = {"end", "change", "gain"};
    private Deque<String> waiting = new ArrayDeque<>();

    PlainLaw(byte[] tape) {
        List<Word> words = words(tape);
        int at = 0;
        for (int part = 0; part < 3 && fault < 0; part++) {
            Word head = words.get(at);
            if (!head.text.equals(HEADS[part]) || head.glued) {
                fault = head.place;
                return;
            }
            parts.add(new ArrayList<>());
            at = readE(words, at + 1, part == 2 ? "" : HEADS[part + 1]);
        }
    }

    private static List<Word> words(byte[] tape) {
        List<Word> words = new ArrayList<>();
        int i = 0;
        boolean wordAhead = false;
        while (i < tape.length) {
            int start = i;
            String kind = kindOf(tape[i]);
            i++;
            while (i < tape.length && !kind.equals("sign") && kindOf(tape[i]).equals(kind)) {
                i++;
            }
            if (kind.equals("blank")) {
                wordAhead = false;
                continue;
            }
            StringBuilder text = new StringBuilder();
            for (int j = start; j < i; j++) {
                text.append((char) (tape[j] & 255));
            }
            boolean isWord = !kind.equals("sign");
            words.add(new Word(text.toString(), start, wordAhead && isWord));
            wordAhead = isWord;
        }
        words.add(new Word("", tape.length, false));
        return words;
    }

    private static String kindOf(byte b) {
        if (b == ' ') {
            return "blank";
        }
        if (b >= 'a' && b <= 'z') {
            return "letter";
        }
        return b >= '0' && b <= '9' ? "digit" : "sign";
    }

    /* A frame for each open bracket: whether a test was seen since the last & or | in it. */
    private int readE(List<Word> words, int at, String stop) {
        waiting = new ArrayDeque<>();
        Deque<Boolean> tested = new ArrayDeque<>();
        tested.push(false);
        boolean wantsPart = true;
        for (int i = at; i < words.size(); i++) {
            Word w = words.get(i);
            String t = w.text;
            if (w.glued) {
                fault = w.place;
                return i;
            }
            if (wantsPart) {
                if (t.matches("[0-9]{1,4}") || t.matches("[kwtab]")) {
                    out(t);
                    leaves++;
                    wantsPart = false;
                    popNots();
                } else if (t.equals("!") && open("!") < 8) {
                    waiting.push(t);
                } else if (t.equals("(") && open("(") < 8) {
                    waiting.push(t);
                    tested.push(false);
                } else {
                    fault = w.place;
                    return i;
                }
            } else if (t.length() == 1 && "|&<=>+-*/".contains(t)) {
                boolean test = "<=>".contains(t);
                if (test && tested.peek()) {
                    fault = w.place;
                    return i;
                }
                if (test || "|&".contains(t)) {
                    tested.pop();
                    tested.push(test);
                }
                while (!waiting.isEmpty() && !waiting.peek().equals("(") && rank(waiting.peek()) >= rank(t)) {
                    out(waiting.pop());
                }
                waiting.push(t);
                wantsPart = true;
            } else if (t.equals(")") && open("(") > 0) {
                while (!waiting.peek().equals("(")) {
                    out(waiting.pop());
                }
                waiting.pop();
                tested.pop();
                popNots();
            } else if (t.equals(stop) && open("(") == 0) {
                while (!waiting.isEmpty()) {
                    out(waiting.pop());
                }
                return i;
            } else {
                fault = w.place;
                return i;
            }
        }
        return words.size();
    }

    private void out(String step) {
        parts.get(parts.size() - 1).add(step);
    }

    private void popNots() {
        while (!waiting.isEmpty() && waiting.peek().equals("!")) {
            out(waiting.pop());
        }
    }

    private int open(String sign) {
        int many = 0;
        for (String w : waiting) {
            if (w.equals(sign)) {
                many++;
            }
        }
        return many;
    }

    private static int rank(String sign) {
        String[] ranks = {"|", "&", "<=>", "+-", "*/", "!"};
        for (int i = 0; i < ranks.length; i++) {
            if (ranks[i].contains(sign)) {
                return i;
            }
        }
        return -1;
    }

    int value(int part, int k, int w, int t, int a, int b) {
        Deque<Integer> stack = new ArrayDeque<>();
        for (String step : parts.get(part)) {
            char c = step.charAt(0);
            if (c >= '0' && c <= '9') {
                stack.push(Integer.parseInt(step));
            } else if (c >= 'a' && c <= 'z') {
                stack.push(c == 'k' ? k : c == 'w' ? w : c == 't' ? t : c == 'a' ? a : b);
            } else if (c == '!') {
                stack.push(stack.pop() == 0 ? 1 : 0);
            } else {
                int right = stack.pop();
                stack.push(worked(c, stack.pop(), right));
            }
        }
        return stack.pop();
    }

    private static int worked(char c, int left, int right) {
        boolean both = left != 0 && right != 0;
        boolean one = left != 0 || right != 0;
        return switch (c) {
            case '|' -> one ? 1 : 0;
            case '&' -> both ? 1 : 0;
            case '<' -> left < right ? 1 : 0;
            case '=' -> left == right ? 1 : 0;
            case '>' -> left > right ? 1 : 0;
            case '+' -> left + right;
            case '-' -> left - right;
            case '*' -> left * right;
            default -> right == 0 ? 0 : left / right;
        };
    }
}
