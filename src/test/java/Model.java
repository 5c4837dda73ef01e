import java.util.ArrayList;
import java.util.Arrays;
import java.util.List;

/** A second telling of the document's rules, slow and plain, which ModelTests holds against the class. */
final class Model {
    static final int NONE = -1, NOT = ForgottenCrafts.NOT;

    static final class Person implements Cloneable {
        int age, earned, learns = NONE, learntYears, forgets = NONE, practises = NONE;
        boolean lives = true, witness, worked;
        int[] skill, like, goneSince;

        Person(int trades) {
            skill = new int[trades];
            like = new int[trades];
            goneSince = new int[trades];
            Arrays.fill(goneSince, NONE);
        }

        Person copy() {
            Person p = new Person(skill.length);
            p.age = age;
            p.earned = earned;
            p.learns = learns;
            p.learntYears = learntYears;
            p.forgets = forgets;
            p.practises = practises;
            p.lives = lives;
            p.witness = witness;
            p.worked = worked;
            p.skill = skill.clone();
            p.like = like.clone();
            p.goneSince = goneSince.clone();
            return p;
        }

        int known() {
            return (int) Arrays.stream(skill).filter(s -> s > 0).count();
        }

        int best() {
            int most = Arrays.stream(skill).max().orElse(0);
            for (int t = 0; t < skill.length && most > 0; t++) {
                if (skill[t] == most) {
                    return t;
                }
            }
            return NONE;
        }
    }

    int trades;
    int[] kind, years, worth, needs, wants;
    int holds = 2, witnesses = 2, fades = 25, rusts = 5, dies = 70;
    boolean lent;
    List<Person> people = new ArrayList<>();
    int year;
    long seed;
    List<int[]> made = new ArrayList<>();

    Model copy() {
        Model m = new Model();
        m.trades = trades;
        m.kind = kind;
        m.years = years;
        m.worth = worth;
        m.needs = needs;
        m.wants = wants;
        m.holds = holds;
        m.witnesses = witnesses;
        m.fades = fades;
        m.rusts = rusts;
        m.dies = dies;
        m.lent = lent;
        for (Person p : people) {
            m.people.add(p.copy());
        }
        m.year = year;
        m.seed = seed;
        m.made = made;
        return m;
    }

    int draw(int n) {
        seed = (seed * 1103515245 + 12345) % (1L << 31);
        return (int) (seed / 65536 % n);
    }

    int change(int p, int l, int f, int lender) {
        Person who = people.get(p);
        if (!who.lives || who.learns != NONE || who.skill[l] > 0 || kind[l] == 3) {
            return NOT;
        }
        if (needs[l] != NONE && who.skill[needs[l]] == 0) {
            return NOT;
        }
        if (f == NONE) {
            if (lender != NONE || who.known() >= holds) {
                return NOT;
            }
            who.learns = l;
            who.learntYears = 0;
            return 0;
        }
        if (lender != NONE && !lent) {
            return NOT;
        }
        if (lender == NONE && needs[l] == f) {
            return NOT;
        }
        Person giver = lender == NONE ? who : people.get(lender);
        if (!giver.lives || giver.skill[f] == 0 || giver.forgets != NONE) {
            return NOT;
        }
        List<Integer> chosen = new ArrayList<>();
        for (int k = 0; k < people.size(); k++) {
            Person w = people.get(k);
            if (w != who && w != giver && w.lives && w.learns == NONE && !w.witness && chosen.size() < witnesses) {
                chosen.add(k);
            }
        }
        if (chosen.size() < witnesses) {
            return NOT;
        }
        int set = 0;
        for (int k : chosen) {
            people.get(k).witness = true;
            set += 1 << k;
        }
        giver.forgets = f;
        who.learns = l;
        who.learntYears = 0;
        return set;
    }

    int night(int p, int t) {
        Person who = people.get(p);
        if (who.skill[t] == 0 || who.worked) {
            return NOT;
        }
        who.worked = true;
        who.skill[t] = Math.min(100, who.skill[t] + 5);
        int others = 0;
        for (Person o : people) {
            others += o.lives && o != who ? 1 : 0;
        }
        boolean seen = draw(100) < 10 * others;
        if (seen && who.forgets == NONE) {
            who.forgets = t;
        }
        return seen ? 1 : 0;
    }

    void passYear() {
        for (Person who : people) {
            if (!who.lives) {
                continue;
            }
            if (who.practises != NONE) {
                who.earned += worth[who.practises] * who.skill[who.practises] / 100;
            }
            int forgetting = who.forgets;
            int learning = who.learns;
            for (int t = 0; t < trades; t++) {
                if (t == forgetting) {
                    int s = who.skill[t] - fades;
                    if (kind[t] == 2 && who.skill[t] >= 50 && s <= 50) {
                        who.skill[t] = 50;
                        who.forgets = NONE;
                    } else if (s <= 0) {
                        who.skill[t] = 0;
                        who.forgets = NONE;
                        who.goneSince[t] = year;
                    } else {
                        who.skill[t] = s;
                    }
                }
                if (t == learning) {
                    who.learntYears++;
                    who.skill[t] = who.learntYears == years[t] ? 100 : Math.min(100, who.skill[t] + 100 / years[t]);
                    who.goneSince[t] = NONE;
                    if (who.skill[t] == 100) {
                        who.learns = NONE;
                    }
                }
                if (t != forgetting && t != learning) {
                    if (who.skill[t] > 0 && who.practises != t) {
                        who.skill[t] = Math.max(1, who.skill[t] - rusts);
                    }
                    boolean back = kind[t] == 1 && who.skill[t] == 0 && who.goneSince[t] != NONE;
                    if (back && year >= who.goneSince[t] + 9 && who.known() < holds) {
                        who.skill[t] = 1;
                        who.goneSince[t] = NONE;
                    }
                }
            }
            who.age++;
            if (who.age >= dies) {
                who.lives = false;
                Arrays.fill(who.skill, 0);
                Arrays.fill(who.goneSince, NONE);
                who.learns = NONE;
                who.forgets = NONE;
                who.practises = NONE;
            } else if (who.practises == NONE || who.skill[who.practises] == 0) {
                who.practises = who.best();
            }
        }
        year++;
        for (Person p : people) {
            p.witness = false;
            p.worked = false;
        }
    }

    int leastLiked(Person who) {
        int least = NONE;
        for (int t = trades - 1; t >= 0; t--) {
            if (who.skill[t] > 0 && (least == NONE || who.like[t] <= who.like[least])) {
                least = t;
            }
        }
        return least;
    }

    void drift(int n, int q) {
        for (int i = 0; i < n; i++) {
            for (int p = 0; p < people.size(); p++) {
                Person who = people.get(p);
                if (who.lives && who.learns == NONE && draw(100) < q) {
                    int l = draw(trades);
                    change(p, l, who.known() < holds ? NONE : leastLiked(who), NONE);
                }
            }
            List<Person> lived = new ArrayList<>();
            for (Person p : people) {
                if (p.lives) {
                    lived.add(p);
                }
            }
            passYear();
            for (Person p : lived) {
                if (!p.lives) {
                    p.lives = true;
                    p.age = 0;
                    p.earned = 0;
                    int t = draw(trades);
                    if (kind[t] != 3) {
                        p.skill[t] = 50;
                        p.practises = t;
                    }
                }
            }
        }
    }

    int set(int t, int least) {
        int set = 0;
        for (int p = 0; p < people.size(); p++) {
            if (people.get(p).lives && people.get(p).skill[t] >= least) {
                set |= 1 << p;
            }
        }
        return set;
    }

    int living() {
        int set = 0;
        for (int p = 0; p < people.size(); p++) {
            set |= people.get(p).lives ? 1 << p : 0;
        }
        return set;
    }

    int dead() {
        int set = 0;
        for (int t = 0; t < trades; t++) {
            set |= set(t, 1) == 0 ? 1 << t : 0;
        }
        return set;
    }

    int compared(int n, int q, int h) {
        Model m = copy();
        m.holds = h;
        m.drift(n, q);
        return Integer.bitCount(m.dead());
    }

    int till(int t) {
        Model m = copy();
        for (int k = 0; k < 200; k++) {
            if (m.set(t, 50) == 0) {
                return k;
            }
            m.passYear();
        }
        return 200;
    }

    int lastHand(int t, int what) {
        int set = set(t, 1);
        for (int p = 0; p < people.size(); p++) {
            if (set == 1 << p) {
                return what == 0 ? p : Math.max(0, worth[t] * (dies - people.get(p).age));
            }
        }
        return NONE;
    }

    private int[] bestGiven;
    private int bestSum;

    /** All that each is given behind the sum; null, if it cannot be. Tries all, in the order that makes the first the best. */
    int[] changed() {
        bestGiven = null;
        bestSum = Integer.MAX_VALUE;
        give(0, new int[people.size()], wants.clone(), 0);
        if (bestGiven == null) {
            return null;
        }
        int[] answer = Arrays.copyOf(bestGiven, people.size() + 1);
        answer[people.size()] = bestSum;
        return answer;
    }

    private void give(int p, int[] given, int[] left, int sum) {
        if (p == people.size()) {
            if (Arrays.stream(left).sum() == 0 && sum < bestSum) {
                bestSum = sum;
                bestGiven = given.clone();
            }
            return;
        }
        if (sum >= bestSum || Arrays.stream(left).sum() > people.size() - p) {
            return;
        }
        Person who = people.get(p);
        for (int t = 0; t < trades && who.lives; t++) {
            int cost;
            if (who.skill[t] >= 50) {
                cost = 0;
            } else if (who.skill[t] > 0) {
                cost = (int) Math.ceil(years[t] * (100 - who.skill[t]) / 100.0 - 1e-9);
            } else if (kind[t] != 3 && (needs[t] == NONE || who.skill[needs[t]] > 0)) {
                cost = years[t];
            } else {
                continue;
            }
            if (left[t] > 0) {
                left[t]--;
                given[p] = t;
                give(p + 1, given, left, sum + cost);
                left[t]++;
            }
        }
        given[p] = NONE;
        give(p + 1, given, left, sum);
    }

    /** Sum, how many, the people; all 0 and NONE without one. Looks at every ordered choice of 2 to 4 people. */
    int[] ring() {
        int[] best = {0, 0, NONE, NONE, NONE, NONE};
        int n = people.size();
        for (int size = 2; size <= 4; size++) {
            int codes = (int) Math.pow(n, size);
            for (int code = 0; code < codes; code++) {
                int[] ring = new int[size];
                for (int i = size - 1, rest = code; i >= 0; i--, rest /= n) {
                    ring[i] = rest % n;
                }
                int sum = ringSum(ring);
                if (sum > best[0]) {
                    Arrays.fill(best, NONE);
                    best[0] = sum;
                    best[1] = size;
                    System.arraycopy(ring, 0, best, 2, size);
                }
            }
        }
        return best;
    }

    private int ringSum(int[] ring) {
        int sum = 0;
        for (int i = 0; i < ring.length; i++) {
            for (int j = 0; j < i; j++) {
                if (ring[i] == ring[j]) {
                    return NONE;
                }
            }
            Person who = people.get(ring[i]);
            Person other = people.get(ring[(i + 1) % ring.length]);
            if (ring[i] < ring[0] || !who.lives || who.learns != NONE || who.known() == 0 || other.known() == 0) {
                return NONE;
            }
            int mine = leastLiked(who);
            int theirs = leastLiked(other);
            if (who.skill[theirs] > 0 || kind[theirs] == 3 || who.like[theirs] <= who.like[mine]) {
                return NONE;
            }
            sum += who.like[theirs] - who.like[mine];
        }
        return sum;
    }

    int fits(int m, int what) {
        int count = 0;
        int all = 0;
        int in = 255;
        for (int set = 0; set < 256; set++) {
            if (Integer.bitCount(set) != m || (set & living()) != set) {
                continue;
            }
            all++;
            boolean fit = true;
            for (int[] thing : made) {
                fit &= (set(thing[0], thing[1]) & set) != 0;
            }
            if (fit) {
                count++;
                in &= set;
            }
        }
        if (what == 0) {
            return count;
        }
        if (what == 1) {
            return count == 0 ? NONE : in;
        }
        return all == 0 ? 0 : (int) (1000000L * count / all);
    }
}
