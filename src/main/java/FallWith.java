import java.util.Arrays;

/** Acts that lean on acts: what stands on a day, what falls with an asking, what would hold it up. */
public final class FallWith {
    public static final int UNKNOWN = -1, OUTSIDE = -2, STATE = -3, FULL = -4, NO = -5, NONE = -6;
    public static final int LOST = -1000000000;

    private static final int MOST_ACTS = 12;
    private static final int MOST_ASKINGS = 12;
    private static final int MOST_SIGNS = 40;
    // A text without a fault has an odd number of signs, so 20 letters at most.
    private static final int MOST_ALLS = 20;
    private static final int LAST_DAY = 99;
    private static final int WHOS = 4;
    private static final int GREATEST_WORTH = 99;
    private static final int GREATEST_RATE = 9;
    private static final int FIRST_SIGN = 33;
    private static final int LAST_SIGN = 126;

    private static final int FLAW = 0, YEARS = 1, HEALED = 2, GOOD = 3;
    private static final int[] LEAST_SETTING = {0, 0, -1, 0};
    private static final int[] GREATEST_SETTING = {4, 99, 99, 1};
    private static final int NOT_HEALED = -1;
    private static final int NOUGHT = 1, BY_GIVER = 2, BY_TAKER = 3, BY_ANYBODY = 4;

    private static final int TOLD_ALLS = 10;
    private static final int EVERY_ONE = -2, HOW_MANY = -1;

    private final Acts acts;
    private final Askings askings;
    private final Pad pad;
    private int lawNow;
    private int rateNow;

    public FallWith() {
        acts = new Acts();
        askings = new Askings();
        pad = new Pad();
        lawNow = 0;
        rateNow = 1;
    }

    // ---- 1 acts

    public int act(int day, int giver, int taker, int worth) {
        if (!isWho(giver) || !isWho(taker) || giver == taker) {
            return UNKNOWN;
        }
        if (!isDay(day) || !within(worth, 0, GREATEST_WORTH)) {
            return OUTSIDE;
        }
        if (acts.count >= MOST_ACTS) {
            return FULL;
        }
        return acts.add(day, giver, taker, worth);
    }

    public int set(int act, int what, int v) {
        if (!acts.has(act)) {
            return UNKNOWN;
        }
        if (!within(what, FLAW, GOOD) || !within(v, LEAST_SETTING[what], GREATEST_SETTING[what])) {
            return OUTSIDE;
        }
        int was = acts.settings[what][act];
        acts.settings[what][act] = v;
        return what == HEALED && was == NOT_HEALED ? NONE : was;
    }

    public int law(int which, int v) {
        if (which == 0 && within(v, 0, 1)) {
            int was = lawNow;
            lawNow = v;
            return was;
        }
        if (which == 1 && within(v, 0, GREATEST_RATE)) {
            int was = rateNow;
            rateNow = v;
            return was;
        }
        return OUTSIDE;
    }

    public int say(int sign) {
        if (!within(sign, FIRST_SIGN, LAST_SIGN)) {
            return OUTSIDE;
        }
        if (pad.count >= MOST_SIGNS) {
            return FULL;
        }
        return pad.add(sign);
    }

    public int wipe() {
        return pad.clear();
    }

    public int fault() {
        return pad.faultPlace();
    }

    public int leans(int act) {
        if (!acts.has(act)) {
            return UNKNOWN;
        }
        if (pad.faultPlace() != NONE) {
            return NO;
        }
        acts.takeText(act, pad);
        pad.clear();
        return acts.allCount[act];
    }

    public int free(int act) {
        if (!acts.has(act)) {
            return UNKNOWN;
        }
        int had = acts.allCount[act];
        acts.allCount[act] = 0;
        return had;
    }

    // ---- 2 askings, what stands

    public int ask(int act, int who, int day) {
        if (!acts.has(act) || !isWho(who)) {
            return UNKNOWN;
        }
        if (!isDay(day)) {
            return OUTSIDE;
        }
        if (askings.count >= MOST_ASKINGS) {
            return FULL;
        }
        return askings.add(act, who, day);
    }

    public int counts(int asking) {
        if (asking < 0 || asking >= askings.count) {
            return UNKNOWN;
        }
        return askings.isCounted(asking, acts) ? 1 : 0;
    }

    public int drop() {
        if (askings.count == 0) {
            return NO;
        }
        askings.count--;
        return askings.count;
    }

    public int all(int day, int how) {
        if (!isDay(day) || !within(how, 0, 2)) {
            return OUTSIDE;
        }
        int sound = soundOn(day);
        if (how == 0) {
            return sound;
        }
        return how == 1 ? acts.most(sound, exempt()) : acts.least(sound, exempt());
    }

    public int why(int act, int day) {
        if (!acts.has(act)) {
            return UNKNOWN;
        }
        if (!isDay(day)) {
            return OUTSIDE;
        }
        if (!acts.isDone(act, day)) {
            return 1;
        }
        if (acts.isNought(act, day)) {
            return 2;
        }
        int sound = soundOn(day);
        if (!contains(sound, act)) {
            return 3;
        }
        return contains(acts.most(sound, exempt()), act) ? 0 : 4;
    }

    public int under(int act) {
        if (!acts.has(act)) {
            return UNKNOWN;
        }
        int found = acts.named(act);
        for (int round = 0; round < MOST_ACTS; round++) {
            int more = found | acts.namedByAny(found);
            if (more == found) {
                break;
            }
            found = more;
        }
        return found;
    }

    // ---- 3 falls

    public int fall(int act, int who, int day, int i) {
        if (!acts.has(act) || !isWho(who)) {
            return UNKNOWN;
        }
        if (!isDay(day)) {
            return OUTSIDE;
        }
        if (!acts.wouldCount(act, who, day)) {
            return NO;
        }
        int sound = soundOn(day);
        if (i == EVERY_ONE) {
            return fallen(act, sound);
        }
        return i == HOW_MANY ? stepCount(act, sound) : stepAt(act, sound, i);
    }

    public int back(int act, int who, int day, int whom) {
        if (!acts.has(act) || !isWho(who) || !isWho(whom)) {
            return LOST + UNKNOWN;
        }
        if (!isDay(day)) {
            return LOST + OUTSIDE;
        }
        if (!acts.wouldCount(act, who, day)) {
            return LOST + NO;
        }
        return acts.gain(fallen(act, soundOn(day)), day, whom, rateNow);
    }

    public int wise(int act, int day) {
        if (!acts.has(act)) {
            return UNKNOWN;
        }
        if (!isDay(day)) {
            return OUTSIDE;
        }
        return wiseWho(act, day, soundOn(day));
    }

    public int rest(int day, int what) {
        if (!isDay(day) || !within(what, 0, 1)) {
            return OUTSIDE;
        }
        int sound = soundOn(day);
        int asked = 0;
        // Who is wise lets at least the act asked for fall, so there are no more askings than acts.
        while (asked < MOST_ACTS) {
            int next = firstWiseAct(day, sound);
            if (next == NONE) {
                break;
            }
            sound = without(sound, next);
            asked++;
        }
        return what == 0 ? asked : acts.most(sound, exempt());
    }

    // ---- 4 what holds

    public int heal(int acts, int day, int what) {
        if (!this.acts.hasAll(acts) || !isDay(day) || !within(what, 0, 1)) {
            return OUTSIDE;
        }
        int healed = fewestHealed(acts, day);
        if (healed == NONE) {
            return NO;
        }
        return what == 0 ? healed : Integer.bitCount(healed);
    }

    public int pillar(int day, int what) {
        if (!isDay(day) || !within(what, 0, 1)) {
            return OUTSIDE;
        }
        int sound = soundOn(day);
        int stand = acts.most(sound, exempt());
        int best = NONE;
        int most = 0;
        for (int act = 0; act < acts.count; act++) {
            if (contains(stand, act)) {
                int others = Integer.bitCount(fallen(act, sound)) - 1;
                if (best == NONE || others > most) {
                    best = act;
                    most = others;
                }
            }
        }
        return what == 0 ? best : most;
    }

    public int hangs(int act, int day, int acts) {
        if (!this.acts.has(act)) {
            return UNKNOWN;
        }
        if (!isDay(day) || !this.acts.hasAll(acts)) {
            return OUTSIDE;
        }
        // The more acts are good the more stand, so all of them good and none tell of every case between.
        int sound = soundOn(day);
        int good = this.acts.goodOnes();
        if (contains(this.acts.most(sound, exemptBy(lawNow, good & ~acts)), act)) {
            return 2;
        }
        return contains(this.acts.most(sound, exemptBy(lawNow, good | acts)), act) ? 1 : 0;
    }

    public int safe(int act) {
        if (!acts.has(act)) {
            return UNKNOWN;
        }
        int first = NONE;
        int soundBefore = 0;
        int askableBefore = 0;
        for (int day = LAST_DAY; day >= acts.day[act]; day--) {
            int sound = soundOn(day);
            int askable = acts.askableOn(day);
            // Most days are like the one looked at before them: these need not be worked out again.
            boolean alike = first != NONE && sound == soundBefore && askable == askableBefore;
            if (!alike && !withstands(act, sound, askable)) {
                break;
            }
            first = day;
            soundBefore = sound;
            askableBefore = askable;
        }
        return first;
    }

    public int beside(int day) {
        if (!isDay(day)) {
            return OUTSIDE;
        }
        int sound = soundOn(day);
        int good = acts.goodOnes();
        return acts.most(sound, exemptBy(0, good)) ^ acts.most(sound, exemptBy(1, good));
    }

    public int told(int what) {
        if (within(what, TOLD_ALLS, TOLD_ALLS + MOST_ACTS - 1)) {
            return acts.allCount[what - TOLD_ALLS];
        }
        switch (what) {
            case 0:
                return acts.count;
            case 1:
                return askings.count;
            case 2:
                return pad.count;
            case 3:
                return lawNow;
            case 4:
                return rateNow;
            default:
                return OUTSIDE;
        }
    }

    // ---- what several calls share

    private static boolean within(int v, int least, int greatest) {
        return v >= least && v <= greatest;
    }

    private static boolean isDay(int day) {
        return within(day, 0, LAST_DAY);
    }

    private static boolean isWho(int who) {
        return within(who, 0, WHOS - 1);
    }

    private static boolean contains(int set, int act) {
        return (set >> act & 1) == 1;
    }

    private static int without(int set, int act) {
        return set & ~(1 << act);
    }

    private int soundOn(int day) {
        return acts.unhurtOn(day) & ~askings.struckBy(day, acts);
    }

    /** The acts that need not to be held up. */
    private int exempt() {
        return exemptBy(lawNow, acts.goodOnes());
    }

    private static int exemptBy(int law, int good) {
        return law == 1 ? good : 0;
    }

    /** What stands by these sound acts, and not if one of them were not sound. */
    private int fallen(int act, int sound) {
        int exempt = exempt();
        int stood = acts.most(sound, exempt);
        if (!contains(stood, act)) {
            return 0;
        }
        return stood & ~acts.most(without(stood, act), exempt);
    }

    private int stepCount(int act, int sound) {
        int steps = 0;
        while (steps < MOST_ACTS && stepAt(act, sound, steps) != NONE) {
            steps++;
        }
        return steps;
    }

    /** The acts of a step; NONE for each number that no step has, too small or too great. */
    private int stepAt(int act, int sound, int i) {
        int exempt = exempt();
        int left = acts.most(sound, exempt);
        if (!contains(left, act) || !within(i, 0, MOST_ACTS - 1)) {
            return NONE;
        }
        int step = 1 << act;
        for (int k = 0; k < i; k++) {
            left &= ~step;
            step = acts.unheld(left, exempt);
        }
        return step == 0 ? NONE : step;
    }

    private int wiseWho(int act, int day, int sound) {
        int fallen = fallen(act, sound);
        for (int who = 0; who < WHOS; who++) {
            if (acts.wouldCount(act, who, day) && acts.gain(fallen, day, who, rateNow) > 0) {
                return who;
            }
        }
        return NONE;
    }

    private int firstWiseAct(int day, int sound) {
        for (int act = 0; act < acts.count; act++) {
            if (wiseWho(act, day, sound) != NONE) {
                return act;
            }
        }
        return NONE;
    }

    /** The fewest acts to heal so that the told ones stand, the least as bits; NONE if nothing does. */
    private int fewestHealed(int told, int day) {
        int sound = soundOn(day);
        int exempt = exempt();
        // Healing helps only what was done by then and is not sound; all of that has a flaw.
        int hurt = acts.doneBy(day) & ~sound;
        int atMost = acts.most(sound | hurt, exempt);
        if ((told & ~atMost) != 0) {
            return NONE;
        }
        int best = hurt & atMost;
        int sure = indispensable(told, atMost, best, exempt);
        int open = best & ~sure;
        int some = 0;
        for (int k = 0; k < 1 << MOST_ACTS && best != sure; k++) {
            int healed = sure | some;
            if (Integer.bitCount(healed) < Integer.bitCount(best) && allStand(told, sound | healed, exempt)) {
                best = healed;
            }
            // The next greater part of the open ones; behind the last one 0 comes again.
            some = (some - open) & open;
            if (some == 0) {
                break;
            }
        }
        return best;
    }

    private boolean allStand(int told, int sound, int exempt) {
        return (told & ~acts.most(sound, exempt)) == 0;
    }

    /** Those of some acts without which the told ones do not all stand, though all others are sound. */
    private int indispensable(int told, int sound, int some, int exempt) {
        int found = 0;
        for (int act = 0; act < acts.count; act++) {
            if (contains(some, act) && !allStand(told, without(sound, act), exempt)) {
                found |= 1 << act;
            }
        }
        return found;
    }

    private boolean withstands(int act, int sound, int askable) {
        int exempt = exempt();
        int stand = acts.most(sound, exempt);
        if (!contains(stand, act)) {
            return false;
        }
        for (int asked = 0; asked < acts.count; asked++) {
            if (contains(askable & stand, asked) && !contains(acts.most(without(stand, asked), exempt), act)) {
                return false;
            }
        }
        return true;
    }

    /** The signs that were said for the next text. */
    private static final class Pad {
        final int[] signs = new int[MOST_SIGNS];
        int count;

        int add(int sign) {
            signs[count] = sign;
            count++;
            return count;
        }

        int clear() {
            int were = count;
            count = 0;
            return were;
        }

        int faultPlace() {
            for (int place = 0; place < count; place++) {
                if (!canStand(signs[place], place)) {
                    return place;
                }
            }
            return isForLetter(count) ? count : NONE;
        }

        private static boolean isForLetter(int place) {
            return place % 2 == 0;
        }

        private static boolean canStand(int sign, int place) {
            if (isForLetter(place)) {
                return within(sign, 'a', 'a' + MOST_ACTS - 1);
            }
            return sign == '+' || sign == '|';
        }
    }

    /** The acts, a place in each row for one; sets of them are bits. */
    private static final class Acts {
        final int[] day = new int[MOST_ACTS];
        final int[] giver = new int[MOST_ACTS];
        final int[] taker = new int[MOST_ACTS];
        final int[] worth = new int[MOST_ACTS];
        final int[][] settings = new int[GOOD + 1][MOST_ACTS];
        final int[] allCount = new int[MOST_ACTS];
        final int[][] alls = new int[MOST_ACTS][MOST_ALLS];
        int count;

        Acts() {
            Arrays.fill(settings[YEARS], LAST_DAY);
            Arrays.fill(settings[HEALED], NOT_HEALED);
        }

        int add(int onDay, int byGiver, int toTaker, int ofWorth) {
            day[count] = onDay;
            giver[count] = byGiver;
            taker[count] = toTaker;
            worth[count] = ofWorth;
            count++;
            return count - 1;
        }

        boolean has(int act) {
            return act >= 0 && act < count;
        }

        boolean hasAll(int set) {
            return (set & ~everyOne()) == 0;
        }

        private int everyOne() {
            return (1 << count) - 1;
        }

        /** Takes the signs of a pad that has no fault. */
        void takeText(int act, Pad from) {
            int[] row = alls[act];
            int last = 0;
            row[last] = 0;
            for (int place = 0; place < from.count; place++) {
                int sign = from.signs[place];
                if (sign == '|') {
                    last = Math.min(last + 1, MOST_ALLS - 1);
                    row[last] = 0;
                } else if (sign != '+') {
                    row[last] |= 1 << sign - 'a';
                }
            }
            allCount[act] = last + 1;
        }

        int named(int act) {
            int names = 0;
            for (int k = 0; k < allCount[act]; k++) {
                names |= alls[act][k];
            }
            return names & everyOne();
        }

        int namedByAny(int set) {
            int names = 0;
            for (int act = 0; act < count; act++) {
                if (contains(set, act)) {
                    names |= named(act);
                }
            }
            return names;
        }

        int goodOnes() {
            int good = 0;
            for (int act = 0; act < count; act++) {
                good |= settings[GOOD][act] << act;
            }
            return good;
        }

        boolean isDone(int act, int by) {
            return day[act] <= by;
        }

        int doneBy(int by) {
            int done = 0;
            for (int act = 0; act < count; act++) {
                if (isDone(act, by)) {
                    done |= 1 << act;
                }
            }
            return done;
        }

        private boolean isHealed(int act, int by) {
            int from = settings[HEALED][act];
            return from != NOT_HEALED && from <= by;
        }

        boolean isNought(int act, int on) {
            return settings[FLAW][act] == NOUGHT && !isHealed(act, on);
        }

        /** What was done by a day and is not nought then: sound, if no asking is against it. */
        int unhurtOn(int on) {
            int unhurt = 0;
            for (int act = 0; act < count; act++) {
                if (isDone(act, on) && !isNought(act, on)) {
                    unhurt |= 1 << act;
                }
            }
            return unhurt;
        }

        boolean wouldCount(int act, int who, int on) {
            return lets(act, who) && isInTime(act, on);
        }

        private boolean lets(int act, int who) {
            int flaw = settings[FLAW][act];
            return flaw == BY_ANYBODY
                    || flaw == BY_GIVER && who == giver[act]
                    || flaw == BY_TAKER && who == taker[act];
        }

        private boolean isInTime(int act, int on) {
            return isDone(act, on) && on - day[act] <= settings[YEARS][act] && !isHealed(act, on);
        }

        /** The acts for which an asking of somebody on that day would count. */
        int askableOn(int on) {
            int askable = 0;
            for (int act = 0; act < count; act++) {
                if (wouldCount(act, giver[act], on) || wouldCount(act, taker[act], on)) {
                    askable |= 1 << act;
                }
            }
            return askable;
        }

        private boolean isHeldUp(int act, int set) {
            int n = allCount[act];
            for (int k = 0; k < n; k++) {
                if ((alls[act][k] & ~set) == 0) {
                    return true;
                }
            }
            return n == 0;
        }

        /** Those of a set that the set itself does not hold up, and that need it. */
        int unheld(int set, int exempt) {
            int needy = set & ~exempt;
            int falling = 0;
            for (int act = 0; act < count; act++) {
                if (contains(needy, act) && !isHeldUp(act, set)) {
                    falling |= 1 << act;
                }
            }
            return falling;
        }

        int most(int sound, int exempt) {
            int left = sound;
            for (int round = 0; round < MOST_ACTS; round++) {
                int falling = unheld(left, exempt);
                if (falling == 0) {
                    break;
                }
                left &= ~falling;
            }
            return left;
        }

        int least(int sound, int exempt) {
            int came = sound & exempt;
            for (int round = 0; round < MOST_ACTS; round++) {
                int more = came | heldUpOf(sound, came);
                if (more == came) {
                    break;
                }
                came = more;
            }
            return came;
        }

        private int heldUpOf(int some, int set) {
            int held = 0;
            for (int act = 0; act < count; act++) {
                if (contains(some, act) && isHeldUp(act, set)) {
                    held |= 1 << act;
                }
            }
            return held;
        }

        /** What somebody has more, if what fell goes back with its fruits on a day. */
        int gain(int fallen, int on, int who, int rate) {
            int more = 0;
            for (int act = 0; act < count; act++) {
                if (contains(fallen, act)) {
                    int due = worth[act] + worth[act] * rate * (on - day[act]) / 100;
                    if (giver[act] == who) {
                        more += due;
                    } else if (taker[act] == who) {
                        more -= due;
                    }
                }
            }
            return more;
        }
    }

    /** The askings in the order in which they were told. */
    private static final class Askings {
        final int[] act = new int[MOST_ASKINGS];
        final int[] who = new int[MOST_ASKINGS];
        final int[] day = new int[MOST_ASKINGS];
        int count;

        int add(int forAct, int byWho, int onDay) {
            act[count] = forAct;
            who[count] = byWho;
            day[count] = onDay;
            count++;
            return count - 1;
        }

        boolean isCounted(int asking, Acts acts) {
            return acts.wouldCount(act[asking], who[asking], day[asking]);
        }

        /** The acts against which an asking of that day or an earlier one counts. */
        int struckBy(int by, Acts acts) {
            int struck = 0;
            for (int asking = 0; asking < count; asking++) {
                if (day[asking] <= by && isCounted(asking, acts)) {
                    struck |= 1 << act[asking];
                }
            }
            return struck;
        }
    }
}
