import java.util.ArrayList;
import java.util.List;
import java.util.regex.Matcher;
import java.util.regex.Pattern;

/** Promises 3 and 4 against a plain model of section 1, on texts that are spoilt here and there. */
public final class TextModelTest {
    private static final Due D = new Due("TextModelTest");
    private static final String[] WORDS = {"way", "roller", "speed", "eye", "turn", "back", "hold", "rest", "damp",
        ";", "rollers", "40", "1", "0", "7", "99", "100", "1234", "x", "A", "!", "\n", " ", "\t", "(", "90"};

    public static void main(String[] args) {
        Due.Dice dice = new Due.Dice(3);
        int[] kinds = new int[6];
        for (int run = 0; run < 40000; run++) {
            String s = spoilt(dice, goodText(dice));
            if (s.length() > 400) {
                continue;
            }
            Model m = new Model(s);
            kinds[m.kind]++;
            PaperWay x = new PaperWay();
            String at = "text <" + s + ">";
            D.due(at, Due.text(x, s), m.kind == 0 ? m.lines : -10 - m.kind);
            D.due("fault(0) of " + at, x.fault(0), m.kind);
            D.due("fault(1) of " + at, x.fault(1), m.kind == 0 ? -1 : m.place);
            D.due("ROLLERS of " + at, x.count(0), m.kind == 0 ? m.rollers : 0);
            D.due("EYES of " + at, x.count(1), m.kind == 0 ? m.eyes : 0);
            D.due("LENGTH of " + at, x.count(2), m.kind == 0 ? m.length : 100);
            D.due("a turn of " + at, x.lay(10, true), m.kind == 0 && m.turn ? 0 : -5);
        }
        for (int k = 0; k < kinds.length; k++) {
            System.out.print(kinds[k] + " of kind " + k + (k < 5 ? ", " : "\n"));
            D.due("texts with fault " + k, kinds[k] > 100, true);
        }
        D.end();
    }

    private static String goodText(Due.Dice dice) {
        StringBuilder s = new StringBuilder();
        int length = 100;
        if (dice.roll(2) == 0) {
            length = dice.between(40, 120);
            s.append("way ").append(length).append(';');
        }
        int rollers = dice.roll(4) == 0 ? dice.between(9, 11) : dice.between(1, 3);
        int eyes = dice.roll(6) == 0 ? dice.between(18, 20) : dice.between(0, 3);
        int roller = 0;
        int eye = 0;
        boolean turn = false;
        for (int i = 0; i < rollers + eyes; i++) {
            if (i < rollers) {
                roller += dice.between(1, rollers > 5 ? 4 : 20);
                s.append(dice.roll(2) == 0 ? "roller " : " roller\n").append(roller);
                s.append(dice.roll(3) == 0 ? "speed" : " speed ").append(dice.between(1, 9)).append("; ");
            } else {
                eye += dice.between(1, eyes > 5 ? 3 : 30);
                s.append("eye ").append(eye).append(dice.roll(3) == 0 ? " ;" : ";");
            }
            if (dice.roll(12) == 0) {
                int place = dice.between(2, length - 1);
                s.append("turn ").append(place).append(" back ").append(dice.between(1, place - 1));
                s.append(" hold ").append(dice.between(1, 3)).append(" rest ").append(dice.between(1, 20)).append(';');
            }
            if (dice.roll(12) == 0) {
                s.append("damp ").append(dice.between(0, 90)).append(';');
            }
        }
        return s.toString();
    }

    private static String spoilt(Due.Dice dice, String good) {
        StringBuilder s = new StringBuilder(good);
        int times = dice.roll(3);
        for (int i = 0; i < times && s.length() > 0; i++) {
            int at = dice.roll(s.length());
            switch (dice.roll(5)) {
                case 0:
                    s.deleteCharAt(at);
                    break;
                case 1:
                    s.insert(at, WORDS[dice.roll(WORDS.length)]);
                    break;
                case 2:
                    s.setCharAt(at, (char) dice.roll(256));
                    break;
                case 3:
                    s.setLength(at);
                    break;
                default:
                    int blank = s.indexOf(" ", at);
                    if (blank >= 0) {
                        s.insert(blank, " " + WORDS[dice.roll(WORDS.length)] + " ");
                    }
                    break;
            }
        }
        return s.toString();
    }

    /** Splits into tokens first, then reads lines by the shapes they may have. */
    private static final class Model {
        private static final Pattern TOKEN = Pattern.compile("[\\n ]*([a-z]+|[0-9]+|;)");
        int kind;
        int place;
        int lines;
        int length = 100;
        int rollers;
        int eyes;
        boolean turn;
        private boolean damp;
        private final List<String> tokens = new ArrayList<>();
        private final List<Integer> places = new ArrayList<>();
        private int at;
        private int roller;
        private int eye;
        private int turnPlace;

        Model(String s) {
            Matcher m = TOKEN.matcher(s);
            int from = 0;
            while (m.find(from) && m.start() == from) {
                tokens.add(m.group(1));
                places.add(m.start(1));
                from = m.end();
            }
            String rest = s.substring(from);
            int blanks = 0;
            while (blanks < rest.length() && (rest.charAt(blanks) == ' ' || rest.charAt(blanks) == '\n')) {
                blanks++;
            }
            tokens.add(blanks == rest.length() ? "END" : "BAD");
            places.add(from + blanks);
            while (kind == 0 && !tokens.get(at).equals("END")) {
                line();
                lines++;
            }
            if (kind == 0 && rollers == 0) {
                fault(2);
            }
        }

        private void fault(int k) {
            if (kind == 0) {
                String t = tokens.get(at);
                kind = t.equals("BAD") || t.matches("[0-9]{4,}") ? 1 : k;
                place = places.get(at);
            }
        }

        private int number(int low, int high) {
            if (kind != 0) {
                return 0;
            }
            String t = tokens.get(at);
            if (!t.matches("[0-9]{1,3}")) {
                fault(2);
                return 0;
            }
            int n = Integer.parseInt(t);
            if (n < low || n > high) {
                fault(3);
            }
            at++;
            return n;
        }

        private void word(String w) {
            if (kind == 0 && !tokens.get(at).equals(w)) {
                fault(2);
            }
            at++;
        }

        private void line() {
            String first = tokens.get(at);
            if (first.equals("way") && lines == 0) {
                at++;
                length = number(40, 300);
            } else if (first.equals("roller")) {
                if (rollers == 10) {
                    fault(5);
                }
                at++;
                roller = number(roller + 1, length - 1);
                word("speed");
                number(1, 9);
                rollers++;
            } else if (first.equals("eye")) {
                if (eyes == 19) {
                    fault(5);
                }
                at++;
                eye = number(eye + 1, length);
                eyes++;
            } else if (first.equals("turn")) {
                if (turn) {
                    fault(4);
                }
                at++;
                turn = true;
                turnPlace = number(2, length - 1);
                word("back");
                number(1, turnPlace - 1);
                word("hold");
                number(1, 3);
                word("rest");
                number(1, 20);
            } else if (first.equals("damp")) {
                if (damp) {
                    fault(4);
                }
                at++;
                damp = true;
                number(0, 90);
            } else {
                fault(2);
            }
            word(";");
        }
    }
}
