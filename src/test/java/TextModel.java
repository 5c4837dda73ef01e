import java.util.ArrayList;
import java.util.List;
import java.util.regex.Matcher;
import java.util.regex.Pattern;

/**
 * A second telling of how towns and laws are told in texts, slow and plain, which TextModelTests holds against the class:
 * all faults that the next word, number or sign has are gathered, and the least of them is told.
 */
final class TextModel {
    static final List<String> KINDS = List.of("plain", "back", "half", "forbidden");
    static final List<String> LAWS = List.of("holds", "witnesses", "fades", "rusts", "dies", "lent");
    private static final int[] LEAST = {1, 0, 1, 0, 1}, MOST = {6, 3, 100, 100, 120}, UNTOLD = {2, 2, 25, 5, 70, 0};
    private static final Pattern TOKEN = Pattern.compile("[a-z]+|[0-9]+|[^ ]", Pattern.DOTALL);
    private static final int NONE = -1;

    /** Ends the reading of a text at its first fault. */
    private static final class Fault extends RuntimeException {
        private static final long serialVersionUID = 1L;
    }

    private final List<String> tokens = new ArrayList<>();
    private final List<Integer> places = new ArrayList<>();
    private int next = 0;

    int fault = 0, place = NONE, clauses = 0;
    final List<int[]> trades = new ArrayList<>();
    final List<Integer> ages = new ArrayList<>();
    final int[][] skills = new int[8][6], likes = new int[8][6];
    final int[] laws = UNTOLD.clone();

    private TextModel(String text) {
        Matcher found = TOKEN.matcher(text);
        while (found.find()) {
            tokens.add(found.group());
            places.add(found.start());
        }
        places.add(text.length());
    }

    static TextModel town(String text) {
        TextModel m = new TextModel(text);
        try {
            m.readTown();
        } catch (Fault found) {
            m.place = m.places.get(m.next);
        }
        return m;
    }

    static TextModel laws(String text) {
        TextModel m = new TextModel(text);
        try {
            m.readLaws();
        } catch (Fault found) {
            m.place = m.places.get(m.next);
        }
        return m;
    }

    private String here() {
        return next < tokens.size() ? tokens.get(next) : "";
    }

    private boolean isNumber() {
        return here().matches("[0-9]+");
    }

    /** What stands here is taken, if it has none of the faults; which[k] tells whether it has fault k + 1. */
    private String take(boolean... which) {
        for (int k = 0; k < which.length; k++) {
            if (which[k]) {
                fault = k + 1;
                throw new Fault();
            }
        }
        return tokens.get(next++);
    }

    private int number(int least, int most) {
        return number(least, most, new boolean[1000]);
    }

    private int number(int least, int most, boolean[] told) {
        String figures = here();
        boolean stands = isNumber();
        int value = stands && figures.length() <= 3 ? Integer.parseInt(figures) : NONE;
        boolean bad = value < least || value > most;
        take(!stands, bad, false, !bad && told[value]);
        return value;
    }

    private void end() {
        take(!here().equals(";"));
        clauses++;
    }

    private void readTown() {
        boolean[][] liked = new boolean[8][6];
        int likesTold = 0;
        while (next < tokens.size()) {
            String word = here();
            switch (word) {
                case "trade":
                    take(!ages.isEmpty(), false, trades.size() == 6);
                    readTrade();
                    break;
                case "person":
                    take(false, false, ages.size() == 8);
                    readPerson();
                    break;
                case "likes":
                    take(false, false, likesTold++ == 40);
                    int p = number(0, ages.size() - 1);
                    int t = number(0, trades.size() - 1, liked[p]);
                    liked[p][t] = true;
                    likes[p][t] = number(0, 99);
                    break;
                default:
                    take(true);
            }
            end();
        }
    }

    private void readTrade() {
        int kind = KINDS.indexOf(take(!KINDS.contains(here())));
        int years = number(1, 9);
        int worth = number(0, 99);
        int needs = NONE;
        if (here().equals("needs")) {
            next++;
            needs = number(0, trades.size() - 1);
        }
        trades.add(new int[] {kind, years, worth, needs});
    }

    private void readPerson() {
        int p = ages.size();
        int age = number(0, 99);
        boolean[] told = new boolean[6];
        while (isNumber()) {
            int t = number(0, trades.size() - 1, told);
            told[t] = true;
            skills[p][t] = number(1, 100);
        }
        ages.add(age);
    }

    private void readLaws() {
        boolean[] told = new boolean[LAWS.size()];
        while (next < tokens.size()) {
            int law = LAWS.indexOf(here());
            take(law == NONE, false, law != NONE && told[law]);
            told[law] = true;
            laws[law] = law < 5 ? number(LEAST[law], MOST[law]) : 1;
            end();
        }
    }
}
