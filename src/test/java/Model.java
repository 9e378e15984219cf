import java.util.ArrayList;
import java.util.List;

/** The document once more, by trying out every case and without thought of time: what ModelTest compares with. */
final class Model {
    static final int UNKNOWN = -1, OUTSIDE = -2, FULL = -4, NO = -5, NONE = -6, LOST = -1000000000;

    static final class Act {
        int day, giver, taker, worth, flaw = 0, years = 99, healed = -1;
        boolean good = false;
        String text = null;
    }

    record Asking(int act, int who, int day) { }

    final List<Act> acts = new ArrayList<>();
    final List<Asking> askings = new ArrayList<>();
    String pad = "";
    int law = 0;
    int rate = 1;

    private boolean noAct(int a) { return a < 0 || a >= acts.size(); }
    private static boolean noWho(int w) { return w < 0 || w > 3; }
    private static boolean noDay(int d) { return d < 0 || d > 99; }
    private boolean noBits(int b) { return b < 0 || b >= 1 << acts.size(); }

    int act(int day, int giver, int taker, int worth) {
        if (noWho(giver) || noWho(taker) || giver == taker) return UNKNOWN;
        if (noDay(day) || worth < 0 || worth > 99) return OUTSIDE;
        if (acts.size() == 12) return FULL;
        Act a = new Act();
        a.day = day;
        a.giver = giver;
        a.taker = taker;
        a.worth = worth;
        acts.add(a);
        return acts.size() - 1;
    }

    int set(int act, int what, int v) {
        if (noAct(act)) return UNKNOWN;
        Act a = acts.get(act);
        int was;
        if (what == 0 && v >= 0 && v <= 4) {
            was = a.flaw;
            a.flaw = v;
        } else if (what == 1 && v >= 0 && v <= 99) {
            was = a.years;
            a.years = v;
        } else if (what == 2 && v >= -1 && v <= 99) {
            was = a.healed < 0 ? NONE : a.healed;
            a.healed = v;
        } else if (what == 3 && (v == 0 || v == 1)) {
            was = a.good ? 1 : 0;
            a.good = v == 1;
        } else {
            return OUTSIDE;
        }
        return was;
    }

    int law(int which, int v) {
        if (which < 0 || which > 1 || v < 0 || v > (which == 0 ? 1 : 9)) return OUTSIDE;
        int was = which == 0 ? law : rate;
        if (which == 0) law = v; else rate = v;
        return was;
    }

    int say(int sign) {
        if (sign < 33 || sign > 126) return OUTSIDE;
        if (pad.length() == 40) return FULL;
        pad += (char) sign;
        return pad.length();
    }

    int wipe() {
        int n = pad.length();
        pad = "";
        return n;
    }

    /** The longest beginning that some text without a fault begins with ends at the fault. */
    int fault() {
        String whole = "[a-l]([+|][a-l])*";
        if (pad.matches(whole)) return NONE;
        for (int n = pad.length(); n >= 0; n--) {
            String begun = pad.substring(0, n);
            if (begun.isEmpty() || begun.matches(whole) || (begun + "a").matches(whole)) return n;
        }
        return 0;
    }

    int leans(int act) {
        if (noAct(act)) return UNKNOWN;
        if (fault() != NONE) return NO;
        acts.get(act).text = pad;
        pad = "";
        return allsOf(act);
    }

    int allsOf(int act) {
        String text = acts.get(act).text;
        return text == null ? 0 : text.split("\\|").length;
    }

    int free(int act) {
        if (noAct(act)) return UNKNOWN;
        int had = allsOf(act);
        acts.get(act).text = null;
        return had;
    }

    int ask(int act, int who, int day) {
        if (noAct(act) || noWho(who)) return UNKNOWN;
        if (noDay(day)) return OUTSIDE;
        if (askings.size() == 12) return FULL;
        askings.add(new Asking(act, who, day));
        return askings.size() - 1;
    }

    boolean wouldCount(Asking q) {
        Act a = acts.get(q.act());
        boolean lets = a.flaw == 2 ? q.who() == a.giver : a.flaw == 3 ? q.who() == a.taker : a.flaw == 4;
        boolean inTime = q.day() >= a.day && q.day() <= a.day + a.years;
        boolean healedByThen = a.healed >= 0 && q.day() >= a.healed;
        return lets && inTime && !healedByThen;
    }

    int counts(int asking) {
        if (asking < 0 || asking >= askings.size()) return UNKNOWN;
        return wouldCount(askings.get(asking)) ? 1 : 0;
    }

    int drop() {
        if (askings.isEmpty()) return NO;
        askings.remove(askings.size() - 1);
        return askings.size();
    }

    /** 0 if sound, else the WHY from 1 to 3. */
    int hurt(int act, int day) {
        Act a = acts.get(act);
        if (a.day > day) return 1;
        if (a.flaw == 1 && !(a.healed >= 0 && a.healed <= day)) return 2;
        for (Asking q : askings) {
            if (q.act() == act && q.day() <= day && wouldCount(q)) return 3;
        }
        return 0;
    }

    int sound(int day) {
        int set = 0;
        for (int a = 0; a < acts.size(); a++) if (hurt(a, day) == 0) set |= 1 << a;
        return set;
    }

    boolean heldOrNeedsNot(int act, int set) {
        Act a = acts.get(act);
        if (a.text == null || law == 1 && a.good) return true;
        for (String one : a.text.split("\\|")) {
            boolean there = true;
            for (String letter : one.split("\\+")) there &= (set >> (letter.charAt(0) - 'a') & 1) == 1;
            if (there) return true;
        }
        return false;
    }

    /** The union of all sets of sound acts of which each is held up by its own set. */
    int most(int sound) {
        int union = 0;
        for (int set = sound; set > 0; set = (set - 1) & sound) {
            if ((set & ~union) == 0) continue;
            boolean holds = true;
            for (int a = 0; a < acts.size() && holds; a++) {
                if ((set >> a & 1) == 1) holds = heldOrNeedsNot(a, set);
            }
            if (holds) union |= set;
        }
        return union;
    }

    int least(int sound) {
        int came = 0;
        while (true) {
            int next = came;
            for (int a = 0; a < acts.size(); a++) {
                if ((sound >> a & 1) == 1 && heldOrNeedsNot(a, came)) next |= 1 << a;
            }
            if (next == came) return came;
            came = next;
        }
    }

    int stand(int day) { return most(sound(day)); }

    int all(int day, int how) {
        if (noDay(day) || how < 0 || how > 2) return OUTSIDE;
        return how == 0 ? sound(day) : how == 1 ? stand(day) : least(sound(day));
    }

    int why(int act, int day) {
        if (noAct(act)) return UNKNOWN;
        if (noDay(day)) return OUTSIDE;
        int hurt = hurt(act, day);
        if (hurt != 0) return hurt;
        return (stand(day) >> act & 1) == 1 ? 0 : 4;
    }

    int under(int act) {
        if (noAct(act)) return UNKNOWN;
        return reach(act, 0);
    }

    private int reach(int act, int seen) {
        String text = acts.get(act).text;
        if (text == null) return seen;
        for (char c : text.toCharArray()) {
            int named = c - 'a';
            if (named >= 0 && named < acts.size() && (seen >> named & 1) == 0) {
                seen = reach(named, seen | 1 << named);
            }
        }
        return seen;
    }

    private int standWith(Asking q, int day) {
        askings.add(q);
        int stand = stand(day);
        askings.remove(askings.size() - 1);
        return stand;
    }

    private int fallOf(Asking q) { return stand(q.day()) & ~standWith(q, q.day()); }

    private List<Integer> stepsOf(Asking q) {
        List<Integer> steps = new ArrayList<>();
        int left = stand(q.day());
        int step = left & 1 << q.act();
        while (step != 0) {
            steps.add(step);
            left &= ~step;
            step = 0;
            for (int a = 0; a < acts.size(); a++) {
                if ((left >> a & 1) == 1 && !heldOrNeedsNot(a, left)) step |= 1 << a;
            }
        }
        return steps;
    }

    int fall(int act, int who, int day, int i) {
        if (noAct(act) || noWho(who)) return UNKNOWN;
        if (noDay(day)) return OUTSIDE;
        Asking q = new Asking(act, who, day);
        if (!wouldCount(q)) return NO;
        if (i == -2) return fallOf(q);
        List<Integer> steps = stepsOf(q);
        if (i == -1) return steps.size();
        return i >= 0 && i < steps.size() ? steps.get(i) : NONE;
    }

    private int backOf(Asking q, int whom) {
        int fallen = fallOf(q);
        int sum = 0;
        for (int a = 0; a < acts.size(); a++) {
            Act one = acts.get(a);
            if ((fallen >> a & 1) == 0) continue;
            int due = one.worth + one.worth * rate * (q.day() - one.day) / 100;
            sum += one.giver == whom ? due : 0;
            sum -= one.taker == whom ? due : 0;
        }
        return sum;
    }

    int back(int act, int who, int day, int whom) {
        if (noAct(act) || noWho(who) || noWho(whom)) return LOST - 1;
        if (noDay(day)) return LOST - 2;
        Asking q = new Asking(act, who, day);
        return wouldCount(q) ? backOf(q, whom) : LOST - 5;
    }

    int wise(int act, int day) {
        if (noAct(act)) return UNKNOWN;
        if (noDay(day)) return OUTSIDE;
        for (int who = 0; who < 4; who++) {
            Asking q = new Asking(act, who, day);
            if (wouldCount(q) && backOf(q, who) > 0) return who;
        }
        return NONE;
    }

    int rest(int day, int what) {
        if (noDay(day) || what < 0 || what > 1) return OUTSIDE;
        int told = askings.size();
        boolean more = true;
        while (more) {
            more = false;
            for (int a = 0; a < acts.size() && !more; a++) {
                int who = wise(a, day);
                if (who >= 0) {
                    askings.add(new Asking(a, who, day));
                    more = true;
                }
            }
        }
        int answer = what == 0 ? askings.size() - told : stand(day);
        while (askings.size() > told) askings.remove(askings.size() - 1);
        return answer;
    }

    int heal(int bits, int day, int what) {
        if (noBits(bits) || noDay(day) || what < 0 || what > 1) return OUTSIDE;
        int flawed = 0;
        int[] healed = new int[acts.size()];
        for (int a = 0; a < acts.size(); a++) {
            if (acts.get(a).flaw != 0) flawed |= 1 << a;
            healed[a] = acts.get(a).healed;
        }
        int best = -1;
        for (int set = 0; set < 1 << acts.size(); set++) {
            if ((set & ~flawed) != 0) continue;
            if (best >= 0 && Integer.bitCount(set) >= Integer.bitCount(best)) continue;
            for (int a = 0; a < acts.size(); a++) acts.get(a).healed = (set >> a & 1) == 1 ? 0 : healed[a];
            int sound = sound(day);
            if ((bits & ~sound) == 0 && (bits & ~stand(day)) == 0) best = set;
        }
        for (int a = 0; a < acts.size(); a++) acts.get(a).healed = healed[a];
        if (best < 0) return NO;
        return what == 0 ? best : Integer.bitCount(best);
    }

    int pillar(int day, int what) {
        if (noDay(day) || what < 0 || what > 1) return OUTSIDE;
        int stand = stand(day);
        int best = NONE;
        int most = -1;
        for (int a = 0; a < acts.size(); a++) {
            if ((stand >> a & 1) == 0) continue;
            int gone = Integer.bitCount(stand & ~most(sound(day) & ~(1 << a)) & ~(1 << a));
            if (gone > most) {
                most = gone;
                best = a;
            }
        }
        return what == 0 ? best : Math.max(most, 0);
    }

    int hangs(int act, int day, int bits) {
        if (noAct(act)) return UNKNOWN;
        if (noDay(day) || noBits(bits)) return OUTSIDE;
        boolean[] was = new boolean[acts.size()];
        for (int a = 0; a < acts.size(); a++) was[a] = acts.get(a).good;
        boolean always = true;
        boolean never = true;
        for (int some = bits; some >= 0; some = some == 0 ? -1 : (some - 1) & bits) {
            for (int a = 0; a < acts.size(); a++) {
                if ((bits >> a & 1) == 1) acts.get(a).good = (some >> a & 1) == 1;
            }
            boolean stands = (stand(day) >> act & 1) == 1;
            always &= stands;
            never &= !stands;
        }
        for (int a = 0; a < acts.size(); a++) acts.get(a).good = was[a];
        return always ? 2 : never ? 0 : 1;
    }

    private boolean withstands(int act, int day) {
        if ((stand(day) >> act & 1) == 0) return false;
        for (int a = 0; a < acts.size(); a++) {
            for (int who = 0; who < 4; who++) {
                Asking q = new Asking(a, who, day);
                if (wouldCount(q) && (standWith(q, day) >> act & 1) == 0) return false;
            }
        }
        return true;
    }

    int safe(int act) {
        if (noAct(act)) return UNKNOWN;
        int first = NONE;
        for (int day = 99; day >= acts.get(act).day && withstands(act, day); day--) first = day;
        return first;
    }

    int beside(int day) {
        if (noDay(day)) return OUTSIDE;
        int was = law;
        law = 0;
        int by0 = stand(day);
        law = 1;
        int by1 = stand(day);
        law = was;
        return by0 & ~by1 | by1 & ~by0;
    }

    int told(int what) {
        if (what >= 10 && what <= 21) return what - 10 < acts.size() ? allsOf(what - 10) : 0;
        int[] all = {acts.size(), askings.size(), pad.length(), law, rate};
        return what >= 0 && what < all.length ? all[what] : OUTSIDE;
    }
}
