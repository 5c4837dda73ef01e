import java.util.ArrayList;
import java.util.List;
import java.util.Random;

/** Texts by a fixed seed, sound ones and ones with something wrong in them: what they tell and their first fault, against TextModel. */
final class TextModelTests {
    private static final Check CHECK = new Check("TextModelTests");
    private static final int TEXTS = 60000;
    private static final List<String> STRANGE = List.of("trade", "person", "likes", "needs", "plain", "back", "half", "forbidden", "holds",
        "witnesses", "fades", "rusts", "dies", "lent", "x", "zz", "persona", ";", ";", "A", "-", "`", "{", "/", ":", "\t", "\u0000", "\u00e9", "\u00ff",
        "0", "1", "2", "3", "5", "6", "7", "8", "9", "10", "99", "100", "101", "120", "121", "000", "007", "0000", "1000", "4294967297");

    private final Random random;

    private TextModelTests(int text) {
        random = new Random(text);
    }

    public static void main(String[] args) {
        int[] faults = new int[5];
        for (int text = 0; text < TEXTS; text++) {
            TextModelTests one = new TextModelTests(text);
            faults[text % 3 == 0 ? one.laws() : one.town()]++;
        }
        for (int fault = 0; fault < faults.length; fault++) {
            CHECK.isTrue("often enough fault " + fault + ": " + faults[fault], faults[fault] > TEXTS / 100);
        }
        CHECK.end();
    }

    private int upTo(int n) {
        return random.nextInt(n);
    }

    private boolean often(int percent) {
        return random.nextInt(100) < percent;
    }

    /** Tells a text to a new object, behind one that is sound: the number of its fault. */
    private int town() {
        String text = written(townTokens(), 500);
        TextModel m = TextModel.town(text);
        ForgottenCrafts x = Check.of("trade half 7 70;person 77 0 77;likes 0 0 7;", "");
        CHECK.due("town of " + text, Check.town(x, text), m.fault == 0 ? m.ages.size() : -10 - m.fault);
        CHECK.due("place in " + text, x.fault(), m.place);
        CHECK.due("bytes behind " + text, x.told(10), 0);
        if (m.fault == 0) {
            asTold(text, x, m);
        } else {
            asBefore(text, x);
        }
        return m.fault;
    }

    private static void asTold(String text, ForgottenCrafts x, TextModel m) {
        CHECK.due("trades of " + text, x.told(0), m.trades.size());
        CHECK.due("people of " + text, x.told(1), m.ages.size());
        CHECK.due("who lives of " + text, x.told(2), (1 << m.ages.size()) - 1);
        for (int t = 0; t < m.trades.size(); t++) {
            for (int what = 0; what < 4; what++) {
                CHECK.due("trade " + t + " " + what + " of " + text, x.trade(t, what), m.trades.get(t)[what]);
            }
        }
        for (int p = 0; p < m.ages.size(); p++) {
            CHECK.due("age " + p + " of " + text, x.person(p, 0), m.ages.get(p));
            for (int t = 0; t < m.trades.size(); t++) {
                CHECK.due("skill " + p + " " + t + " of " + text, x.skill(p, t), m.skills[p][t]);
                CHECK.due("like " + p + " " + t + " of " + text, x.like(p, t), m.likes[p][t]);
            }
        }
    }

    private static void asBefore(String text, ForgottenCrafts x) {
        int[] got = {x.told(0), x.told(1), x.trade(0, 0), x.trade(0, 1), x.trade(0, 2), x.person(0, 0), x.skill(0, 0), x.like(0, 0)};
        int[] due = {1, 1, 2, 7, 70, 77, 77, 7};
        for (int i = 0; i < due.length; i++) {
            CHECK.due("as before, " + i + ", behind " + text, got[i], due[i]);
        }
    }

    private int laws() {
        String text = written(lawTokens(), 200);
        TextModel m = TextModel.laws(text);
        int[] before = {5, 3, 33, 13, 83, 1};
        ForgottenCrafts x = Check.of("", "holds 5;witnesses 3;fades 33;rusts 13;dies 83;lent;");
        CHECK.due("laws of " + text, Check.laws(x, text), m.fault == 0 ? m.clauses : -10 - m.fault);
        CHECK.due("place in " + text, x.fault(), m.place);
        CHECK.due("bytes behind " + text, x.told(10), 0);
        for (int law = 0; law < 6; law++) {
            CHECK.due("law " + law + " of " + text, x.told(4 + law), m.fault == 0 ? m.laws[law] : before[law]);
        }
        return m.fault;
    }

    // ---- texts

    private List<String> townTokens() {
        List<String> all = new ArrayList<>();
        int trades = often(5) ? 7 : upTo(7);
        int people = often(5) ? 9 : upTo(9);
        for (int t = 0; t < trades; t++) {
            add(all, "trade", TextModel.KINDS.get(upTo(4)), 1 + upTo(often(3) ? 10 : 9), upTo(often(2) ? 101 : 100));
            if (t > 0 && often(30)) {
                add(all, "needs", upTo(often(5) ? t + 1 : t));
            }
            add(all, ";");
        }
        for (int p = 0; p < people; p++) {
            add(all, "person", upTo(often(2) ? 101 : 100));
            for (int t = 0; t < trades; t++) {
                if (often(40)) {
                    add(all, often(5) ? upTo(trades) : t, (often(2) ? 0 : 1) + upTo(often(2) ? 101 : 100));
                }
            }
            add(all, ";");
            for (int i = upTo(3); i > 0 && trades > 0; i--) {
                add(all, "likes", upTo(p + 1), upTo(trades), upTo(often(2) ? 101 : 100), ";");
            }
        }
        return all;
    }

    private List<String> lawTokens() {
        List<String> all = new ArrayList<>();
        int[] most = {6, 3, 100, 100, 120};
        int first = upTo(6);
        int clauses = often(10) ? 7 : upTo(7);
        for (int i = 0; i < clauses; i++) {
            int law = often(5) ? upTo(6) : (first + i) % 6;
            add(all, TextModel.LAWS.get(law));
            if (law < 5) {
                add(all, upTo(10) == 0 ? most[law] + upTo(2) : law == 1 ? upTo(4) : 1 + upTo(most[law]));
            }
            add(all, ";");
        }
        return all;
    }

    private static void add(List<String> all, Object... tokens) {
        for (Object token : tokens) {
            all.add(token.toString());
        }
    }

    /** The tokens, some of them made wrong, with blanks where they need one, and sometimes where they do not. */
    private String written(List<String> tokens, int most) {
        for (int i = often(40) ? 0 : 1 + upTo(2); i > 0; i--) {
            makeWrong(tokens);
        }
        StringBuilder text = new StringBuilder();
        int blanks = upTo(3) == 0 ? 30 : 3;
        for (int i = 0; i < tokens.size(); i++) {
            boolean sideBySide = i > 0 && Character.isLetterOrDigit(tokens.get(i).charAt(0)) && Character.isLetterOrDigit(tokens.get(i - 1).charAt(0));
            if (sideBySide ? !often(1) : often(blanks)) {
                text.append(" ".repeat(often(90) ? 1 : 1 + upTo(3)));
            }
            text.append(tokens.get(i));
        }
        text.append(" ".repeat(often(10) ? upTo(4) : 0));
        return text.substring(0, Math.min(most, often(5) ? upTo(text.length() + 1) : text.length()));
    }

    private void makeWrong(List<String> tokens) {
        int place = upTo(tokens.size() + 1);
        int kind = tokens.isEmpty() || place == tokens.size() ? 0 : upTo(4);
        switch (kind) {
            case 0:
                tokens.add(place, STRANGE.get(upTo(STRANGE.size())));
                break;
            case 1:
                tokens.remove(place);
                break;
            case 2:
                tokens.set(place, STRANGE.get(upTo(STRANGE.size())));
                break;
            default:
                int from = upTo(tokens.size());
                int to = Math.min(tokens.size(), from + 1 + upTo(6));
                tokens.addAll(place, new ArrayList<>(tokens.subList(from, to)));
        }
    }
}
