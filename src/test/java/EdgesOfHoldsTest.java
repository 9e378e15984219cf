import static java.lang.Integer.MAX_VALUE;
import static java.lang.Integer.MIN_VALUE;

import java.io.IOException;

/** Promises 20 to 25, sentence by sentence: the boundary cases of what holds, and of what is told. */
public final class EdgesOfHoldsTest {
    private static final int UNKNOWN = Edges.UNKNOWN, OUTSIDE = Edges.OUTSIDE, NO = Edges.NO, NONE = Edges.NONE;
    private static final String FIRST_THAT_FITS = "Calls that are refused answer, the first of these that fits";
    private static final String CHANGE_NOTHING = "They change nothing.";
    private static final int[] NO_PAIR = {MIN_VALUE, -256, -1, 2, 256, 65536, MAX_VALUE};
    private static Edges edges;

    public static void main(String[] args) throws IOException {
        edges = new Edges();
        heal();
        pillar();
        hangs();
        safe();
        beside();
        told();
        edges.close(20, 25);
    }

    private static void is(String call, int got, int want) {
        edges.is(call, got, want);
    }

    private static FallWith nought(int n) {
        FallWith x = Stories.withActs(n);
        for (int act = 0; act < n; act++) {
            x.set(act, 0, 1);
        }
        return x;
    }

    // ---- promise 20

    private static void heal() {
        edges.test(20, "OUTSIDE: also bits of no ACT", EdgesOfHoldsTest::bitsOfHeal);
        edges.test(20, "DAYS are 0 to 99", EdgesOfHoldsTest::dayOfHeal);
        edges.test(20, "the set as bits (what = 0), how many (1)", EdgesOfHoldsTest::whatOfHeal);
        edges.test(20, "NO: nothing does", EdgesOfHoldsTest::nothingDoes);
        edges.test(20, FIRST_THAT_FITS, EdgesOfHoldsTest::firstRefusalOfHeal);
        edges.test(20, "of ACTS with a FLAW the fewest", EdgesOfHoldsTest::noneAndTwelveToHeal);
        edges.test(20, "of ACTS with a FLAW the fewest", EdgesOfHoldsTest::fewestToHeal);
        edges.test(20, "of ACTS with a FLAW the fewest", EdgesOfHoldsTest::healingIsNoDoing);
        edges.test(20, "of several sets the least as bits", EdgesOfHoldsTest::leastToHeal);
        edges.test(20, "if these are HEALED from DAY 0 on (all else as it is)", EdgesOfHoldsTest::healedFromDayZero);
        edges.test(20, CHANGE_NOTHING, EdgesOfHoldsTest::healOnlyLooks);
    }

    private static void refusedHeal(Stories.Story story, int acts, int day, int what, int want) {
        edges.refused("heal(" + acts + ", " + day + ", " + what + ")", story, x -> x.heal(acts, day, what), want);
    }

    private static void bitsOfHeal() {
        for (int what = 0; what < 2; what++) {
            for (int bits : Edges.noBits(5)) {
                refusedHeal(Stories::some, bits, 50, what, OUTSIDE);
            }
            for (int bits : Edges.noBits(12)) {
                refusedHeal(Stories::full, bits, 50, what, OUTSIDE);
            }
            for (int bits : Edges.noBits(0)) {
                is("of no acts", new FallWith().heal(bits, 0, what), OUTSIDE);
            }
        }
        for (int n = 0; n <= 12; n++) {
            FallWith x = Stories.withActs(n);
            is("none of " + n, x.heal(0, 0, 0), 0);
            is("all of " + n, x.heal((1 << n) - 1, 0, 0), 0);
            is("one more than " + n, x.heal(1 << n, 0, 0), OUTSIDE);
        }
    }

    private static void dayOfHeal() {
        for (int day : Edges.NO_DAYS) {
            refusedHeal(Stories::some, 0, day, 0, OUTSIDE);
            refusedHeal(Stories::some, 3, day, 1, OUTSIDE);
        }
    }

    private static void whatOfHeal() {
        for (int what : NO_PAIR) {
            refusedHeal(Stories::some, 0, 0, what, OUTSIDE);
            refusedHeal(Stories::some, 3, 99, what, OUTSIDE);
        }
        FallWith x = nought(12);
        is("as bits", x.heal(2048 + 1, 0, 0), 2049);
        is("how many", x.heal(2048 + 1, 0, 1), 2);
    }

    private static void nothingDoes() {
        refusedHeal(Stories::some, 16, 98, 0, NO);
        refusedHeal(Stories::some, 31, 98, 1, NO);
        refusedHeal(Stories::full, 4095, 32, 0, NO);
        FallWith x = new FallWith();
        x.act(50, 0, 1, 0);
        is("not done, none told", x.heal(0, 49, 0), 0);
        is("done", x.heal(1, 50, 0), 0);
        x.set(0, 0, 1);
        is("not done, NOUGHT", x.heal(1, 49, 0), NO);
        is("done, NOUGHT", x.heal(1, 50, 0), 1);
        Stories.lean(x, 0, "l");
        is("leans on none", x.heal(1, 50, 0), NO);
        is("leans on none", x.heal(1, 50, 1), NO);
        Stories.lean(x, 0, "b");
        x.act(51, 0, 1, 0);
        is("leans on one that is not done", x.heal(1, 50, 0), NO);
        is("leans on one that is done", x.heal(1, 51, 0), 1);
        is("one of two stands", x.heal(2, 51, 0), 0);
        Stories.lean(x, 1, "l");
        is("without a flaw, not held up", x.heal(2, 51, 0), NO);
        is("one of two can not", x.heal(3, 51, 1), NO);
    }

    private static void firstRefusalOfHeal() {
        refusedHeal(Stories::some, 16, 98, 0, NO);
        refusedHeal(Stories::some, 48, 98, 0, OUTSIDE);
        refusedHeal(Stories::some, -1, 98, 1, OUTSIDE);
        refusedHeal(Stories::some, 16, 100, 0, OUTSIDE);
        refusedHeal(Stories::some, 16, -1, 1, OUTSIDE);
        refusedHeal(Stories::some, 16, 98, 2, OUTSIDE);
        refusedHeal(Stories::some, 16, 98, -1, OUTSIDE);
        refusedHeal(Stories::some, 32, 100, 2, OUTSIDE);
    }

    private static void noneAndTwelveToHeal() {
        FallWith x = nought(12);
        is("none told", x.heal(0, 0, 0), 0);
        is("none told", x.heal(0, 0, 1), 0);
        for (int act = 0; act < 12; act++) {
            is("one told", x.heal(1 << act, 0, 0), 1 << act);
        }
        is("all told", x.heal(4095, 0, 0), 4095);
        is("all told", x.heal(4095, 0, 1), 12);
        FallWith y = nought(12);
        for (int act = 0; act < 12; act++) {
            Stories.lean(y, act, Stories.letter((act + 11) % 12));
        }
        is("one told, twelve round", y.heal(1, 0, 0), 4095);
        is("one told, twelve round", y.heal(2048, 99, 1), 12);
        y.set(5, 0, 0);
        is("eleven of the round", y.heal(1, 0, 0), 4095 - 32);
    }

    private static void fewestToHeal() {
        FallWith x = nought(12);
        x.set(11, 0, 0);
        Stories.lean(x, 11, "a+b|c+d|e");
        is("one instead of two", x.heal(2048, 0, 0), 16);
        is("how many", x.heal(2048, 0, 1), 1);
        is("two with a told one", x.heal(2048 + 2, 0, 0), 3);
        is("three told", x.heal(2048 + 32, 0, 0), 48);
        Stories.lean(x, 11, "a+b+c+d+e+f+g+h+i|b+c+d+e+f+g+h+i+k+a");
        is("nine of eleven", x.heal(2048, 0, 1), 9);
        is("nine of eleven", x.heal(2048, 0, 0), 511);
        Stories.lean(x, 11, "l|a+b");
        is("by itself", x.heal(2048, 0, 0), 0);
    }

    /** What was not done by then, or has no flaw, is not among the fewest. */
    private static void healingIsNoDoing() {
        FallWith x = new FallWith();
        x.act(50, 0, 1, 0);
        for (int k = 1; k < 8; k++) {
            x.act(0, 0, 1, 0);
        }
        x.set(0, 0, 1);
        for (int act = 1; act < 6; act++) {
            x.set(act, 0, 1);
        }
        Stories.lean(x, 7, "d+e+f|b+c|a|g");
        Stories.lean(x, 6, "l");
        is("the day ahead of the first's", x.heal(128, 49, 0), 6);
        is("the first's day", x.heal(128, 50, 0), 1);
        Stories.lean(x, 7, "d+e|b+c|a|g");
        is("of two pairs the least", x.heal(128, 49, 0), 6);
        Stories.lean(x, 7, "d+e|b+f+c|a|g");
        is("the pair", x.heal(128, 49, 0), 24);
        x.free(6);
        is("one without a flaw stands", x.heal(128, 49, 0), 0);
    }

    private static void leastToHeal() {
        FallWith x = nought(12);
        x.set(11, 0, 0);
        Stories.lean(x, 11, "k|c|j|b");
        is("of four the least", x.heal(2048, 0, 0), 2);
        Stories.lean(x, 11, "k+a|c+d|b+e");
        is("of three pairs the least as bits", x.heal(2048, 0, 0), 12);
        x.set(2, 0, 0);
        is("one is left of a pair", x.heal(2048, 0, 0), 8);
    }

    private static void healedFromDayZero() {
        FallWith x = Stories.withActs(2);
        x.set(0, 0, 4);
        x.ask(0, 0, 0);
        is("asked for on DAY 0", x.heal(1, 0, 0), 1);
        is("asked for on DAY 0, the last day", x.heal(1, 99, 0), 1);
        x.set(0, 2, 1);
        is("healed behind the asking", x.heal(1, 99, 0), 1);
        x.set(0, 2, 0);
        is("healed by then already", x.heal(1, 99, 0), 0);
        x.set(1, 0, 1);
        x.set(1, 2, 99);
        is("healed later, the day ahead", x.heal(2, 98, 0), 2);
        is("healed later, that day", x.heal(2, 99, 0), 0);
        FallWith y = Stories.withActs(1);
        y.set(0, 0, 4);
        y.ask(0, 0, 50);
        is("the day ahead of an asking", y.heal(1, 49, 1), 0);
        is("the day of an asking", y.heal(1, 50, 1), 1);
        y.law(0, 1);
        y.set(0, 3, 1);
        is("GOOD is not healed", y.heal(1, 50, 1), 1);
        Stories.lean(y, 0, "l");
        is("GOOD needs not to be held up", y.heal(1, 50, 1), 1);
        y.law(0, 0);
        is("LAW 0", y.heal(1, 50, 1), NO);
    }

    private static void healOnlyLooks() {
        for (int what = 0; what < 2; what++) {
            int one = what;
            edges.unchanged("heal(6, 99, " + what + ")", Stories::some, x -> x.heal(6, 99, one));
            edges.unchanged("heal(4095, 99, " + what + ")", Stories::full, x -> x.heal(4095, 99, one));
        }
    }

    // ---- promise 21

    private static void pillar() {
        edges.test(21, "DAYS are 0 to 99", EdgesOfHoldsTest::dayOfPillar);
        edges.test(21, "PILLAR: the ACT (what = 0; NONE: nothing stands), how many others (1). OUTSIDE.", EdgesOfHoldsTest::whatOfPillar);
        edges.test(21, "PILLAR: the ACT (what = 0; NONE: nothing stands), how many others (1). OUTSIDE.", EdgesOfHoldsTest::nothingStands);
        edges.test(21, "the one without which (as if it were not SOUND) most others do not", EdgesOfHoldsTest::noneAndElevenOthers);
        edges.test(21, "the one without which (as if it were not SOUND) most others do not", EdgesOfHoldsTest::othersThatStood);
        edges.test(21, "most others do not; of several the least", EdgesOfHoldsTest::leastPillar);
        edges.test(21, CHANGE_NOTHING, EdgesOfHoldsTest::pillarOnlyLooks);
    }

    private static void dayOfPillar() {
        for (int day : Edges.NO_DAYS) {
            for (int what = 0; what < 2; what++) {
                int one = what;
                edges.refused("pillar(" + day + ", " + what + ")", Stories::some, x -> x.pillar(day, one), OUTSIDE);
                is("of no acts", new FallWith().pillar(day, what), OUTSIDE);
            }
        }
    }

    private static void whatOfPillar() {
        for (int what : NO_PAIR) {
            edges.refused("pillar(0, " + what + ")", Stories::some, x -> x.pillar(0, what), OUTSIDE);
            edges.refused("pillar(99, " + what + ")", Stories::none, x -> x.pillar(99, what), OUTSIDE);
            is("both are not as told", new FallWith().pillar(100, what), OUTSIDE);
        }
    }

    private static void nothingStands() {
        is("no acts", new FallWith().pillar(0, 0), NONE);
        is("no acts", new FallWith().pillar(0, 1), 0);
        is("twelve, all NOUGHT", nought(12).pillar(99, 0), NONE);
        is("twelve, all NOUGHT", nought(12).pillar(99, 1), 0);
        FallWith x = new FallWith();
        x.act(99, 0, 1, 0);
        is("not done", x.pillar(98, 0), NONE);
        is("done", x.pillar(99, 0), 0);
        is("done, no others", x.pillar(99, 1), 0);
    }

    private static void noneAndElevenOthers() {
        for (int held = 0; held < 12; held++) {
            FallWith x = Stories.withActs(12);
            for (int act = 0; act < 12; act++) {
                if (act != held) {
                    Stories.lean(x, act, Stories.letter(held));
                }
            }
            is("all lean on " + held, x.pillar(0, 0), held);
            is("eleven others", x.pillar(0, 1), 11);
        }
        FallWith y = Stories.chain(12);
        is("a chain", y.pillar(0, 0), 0);
        is("a chain", y.pillar(0, 1), 11);
        FallWith z = Stories.withActs(12);
        is("no one leans, the least", z.pillar(0, 0), 0);
        is("no others", z.pillar(0, 1), 0);
        for (int act = 0; act < 12; act++) {
            Stories.lean(z, act, Stories.letter(act));
        }
        is("each on itself", z.pillar(0, 0), 0);
        is("no others", z.pillar(0, 1), 0);
    }

    private static void othersThatStood() {
        FallWith x = Stories.withActs(4);
        Stories.lean(x, 1, "a+l");
        Stories.lean(x, 2, "d");
        is("what did not stand does not fall", x.pillar(0, 0), 3);
        is("one other", x.pillar(0, 1), 1);
        x.set(3, 0, 1);
        is("one stands", x.pillar(0, 0), 0);
        is("no others that stood", x.pillar(0, 1), 0);
        x.set(3, 0, 0);
        x.law(0, 1);
        x.set(2, 3, 1);
        is("GOOD does not fall", x.pillar(0, 1), 0);
        is("the least", x.pillar(0, 0), 0);
        x.set(1, 3, 1);
        x.set(0, 3, 1);
        x.set(0, 0, 1);
        is("the first does not stand", x.pillar(0, 0), 1);
    }

    private static void leastPillar() {
        FallWith x = Stories.withActs(12);
        Stories.lean(x, 0, "k");
        Stories.lean(x, 1, "j");
        is("of two the least", x.pillar(0, 0), 9);
        Stories.lean(x, 2, "k");
        is("the one with more", x.pillar(0, 0), 10);
        is("two", x.pillar(0, 1), 2);
        Stories.lean(x, 3, "j");
        is("of two the least again", x.pillar(0, 0), 9);
        FallWith y = Stories.chain(12);
        Stories.lean(y, 0, "l");
        is("of twelve round the least", y.pillar(0, 0), 0);
        is("eleven", y.pillar(0, 1), 11);
    }

    private static void pillarOnlyLooks() {
        edges.unchanged("pillar(45, 0)", Stories::some, x -> x.pillar(45, 0));
        edges.unchanged("pillar(45, 1)", Stories::full, x -> x.pillar(45, 1));
    }

    // ---- promise 22

    private static void hangs() {
        edges.test(22, "UNKNOWN -1 (there is no such ACT, ASKING, WHO)", EdgesOfHoldsTest::actOfHangs);
        edges.test(22, "DAYS are 0 to 99", EdgesOfHoldsTest::dayOfHangs);
        edges.test(22, "HANGS, of some ACTS (bits). UNKNOWN; OUTSIDE.", EdgesOfHoldsTest::bitsOfHangs);
        edges.test(22, FIRST_THAT_FITS, EdgesOfHoldsTest::firstRefusalOfHangs);
        edges.test(22, "if it is not known of some ACTS whether they are GOOD", EdgesOfHoldsTest::noneAndAllNotKnown);
        edges.test(22, "2: an ACT stands on a DAY however that is, 0: it does not however, 1: else", EdgesOfHoldsTest::howeverThatIs);
        edges.test(22, CHANGE_NOTHING, EdgesOfHoldsTest::hangsOnlyLooks);
    }

    private static void refusedHangs(Stories.Story story, int act, int day, int acts, int want) {
        edges.refused("hangs(" + act + ", " + day + ", " + acts + ")", story, x -> x.hangs(act, day, acts), want);
    }

    private static void actOfHangs() {
        for (int act : Edges.noActs(5)) {
            refusedHangs(Stories::some, act, 50, 0, UNKNOWN);
        }
        for (int act : Edges.noActs(12)) {
            refusedHangs(Stories::full, act, 50, 4095, UNKNOWN);
        }
        is("of the last", Stories.withActs(12).hangs(11, 0, 4095), 2);
    }

    private static void dayOfHangs() {
        for (int day : Edges.NO_DAYS) {
            refusedHangs(Stories::some, 0, day, 0, OUTSIDE);
            refusedHangs(Stories::some, 4, day, 31, OUTSIDE);
        }
    }

    private static void bitsOfHangs() {
        for (int bits : Edges.noBits(5)) {
            refusedHangs(Stories::some, 0, 50, bits, OUTSIDE);
        }
        for (int bits : Edges.noBits(12)) {
            refusedHangs(Stories::full, 0, 50, bits, OUTSIDE);
        }
        for (int n = 1; n <= 12; n++) {
            FallWith x = Stories.withActs(n);
            is("none of " + n, x.hangs(n - 1, 0, 0), 2);
            is("all of " + n, x.hangs(n - 1, 0, (1 << n) - 1), 2);
            is("one more than " + n, x.hangs(n - 1, 0, 1 << n), OUTSIDE);
        }
    }

    private static void firstRefusalOfHangs() {
        refusedHangs(Stories::none, 0, 100, 0, UNKNOWN);
        refusedHangs(Stories::none, 0, 0, 1, UNKNOWN);
        refusedHangs(Stories::some, 5, 100, 0, UNKNOWN);
        refusedHangs(Stories::some, 5, 50, 32, UNKNOWN);
        refusedHangs(Stories::some, -1, -1, -1, UNKNOWN);
        refusedHangs(Stories::some, 0, 100, 32, OUTSIDE);
    }

    private static void noneAndAllNotKnown() {
        FallWith x = Stories.chain(12);
        x.set(0, 0, 1);
        is("LAW 0, all not known", x.hangs(11, 0, 4095), 0);
        x.law(0, 1);
        is("none not known", x.hangs(11, 0, 0), 0);
        for (int act = 1; act < 12; act++) {
            is("not known of " + act, x.hangs(11, 0, 1 << act), 1);
            is("not known of " + act + ", of the first", x.hangs(1, 0, 1 << act), act == 1 ? 1 : 0);
        }
        is("not known of one that is not SOUND", x.hangs(11, 0, 1), 0);
        is("all not known", x.hangs(11, 0, 4095), 1);
        x.set(6, 3, 1);
        is("one is known to be GOOD", x.hangs(11, 0, 4095 - 64), 2);
        is("one was known to be GOOD", x.hangs(11, 0, 64), 1);
        is("known of all", x.hangs(11, 0, 0), 2);
        is("ahead of the one that is GOOD", x.hangs(5, 0, 0), 0);
    }

    private static void howeverThatIs() {
        FallWith x = new FallWith();
        x.act(50, 0, 1, 0);
        x.law(0, 1);
        is("not done", x.hangs(0, 49, 1), 0);
        is("done", x.hangs(0, 50, 1), 2);
        Stories.lean(x, 0, "l");
        is("hangs", x.hangs(0, 50, 1), 1);
        is("hangs, the last day", x.hangs(0, 99, 1), 1);
        is("not done", x.hangs(0, 49, 1), 0);
        x.set(0, 3, 1);
        is("GOOD, not known", x.hangs(0, 50, 1), 1);
        is("GOOD, known", x.hangs(0, 50, 0), 2);
        x.set(0, 0, 4);
        x.ask(0, 0, 60);
        is("the day ahead of an asking", x.hangs(0, 59, 1), 1);
        is("the day of an asking", x.hangs(0, 60, 1), 0);
        Stories.lean(x, 0, "a");
        is("on itself", x.hangs(0, 59, 1), 2);
        is("LAW was", x.law(0, 0), 1);
        Stories.lean(x, 0, "l");
        is("LAW 0", x.hangs(0, 59, 1), 0);
    }

    private static void hangsOnlyLooks() {
        edges.unchanged("hangs(3, 50, 31)", Stories::some, x -> x.hangs(3, 50, 31));
        edges.unchanged("hangs(3, 50, 0)", Stories::some, x -> x.hangs(3, 50, 0));
        edges.unchanged("hangs(11, 45, 4095)", Stories::full, x -> x.hangs(11, 45, 4095));
    }

    // ---- promise 23

    private static void safe() {
        edges.test(23, "SAFE; NONE. UNKNOWN.", EdgesOfHoldsTest::actOfSafe);
        edges.test(23, "the first DAY, not ahead of its own", EdgesOfHoldsTest::notAheadOfItsOwn);
        edges.test(23, "from it till DAY 99 on each DAY the ACT stands", EdgesOfHoldsTest::tillTheLastDay);
        edges.test(23, "also by each one ASKING more of that DAY that would COUNT", EdgesOfHoldsTest::byEachOneAskingMore);
        edges.test(23, "also by each one ASKING more of that DAY that would COUNT", EdgesOfHoldsTest::askingsForOthers);
        edges.test(23, CHANGE_NOTHING, EdgesOfHoldsTest::safeOnlyLooks);
    }

    private static void actOfSafe() {
        for (int act : Edges.noActs(5)) {
            edges.refused("safe(" + act + ")", Stories::some, x -> x.safe(act), UNKNOWN);
        }
        for (int act : Edges.noActs(12)) {
            edges.refused("safe(" + act + ")", Stories::full, x -> x.safe(act), UNKNOWN);
        }
        is("of the last", Stories.withActs(12).safe(11), 0);
    }

    private static void notAheadOfItsOwn() {
        for (int day = 0; day <= 99; day++) {
            FallWith x = new FallWith();
            x.act(day, 0, 1, 0);
            is("of DAY " + day, x.safe(0), day);
            x.set(0, 0, 1);
            is("NOUGHT", x.safe(0), NONE);
            x.set(0, 2, 0);
            is("healed ahead of its own", x.safe(0), day);
        }
    }

    private static void tillTheLastDay() {
        FallWith x = Stories.withActs(1);
        x.set(0, 0, 1);
        for (int day = 0; day <= 99; day++) {
            x.set(0, 2, day);
            is("healed from " + day, x.safe(0), day);
        }
        FallWith y = Stories.withActs(2);
        y.set(0, 0, 4);
        y.set(0, 1, 10);
        Stories.lean(y, 1, "a");
        is("till the years are over", y.safe(1), 11);
        y.ask(0, 0, 10);
        is("it falls, and stays fallen", y.safe(1), NONE);
        is("the other one too", y.safe(0), NONE);
        Stories.lean(y, 1, "a|c");
        y.act(99, 0, 1, 0);
        is("on the last day something else holds it up", y.safe(1), 99);
        y.set(2, 0, 2);
        is("that can be asked for on the last day", y.safe(1), NONE);
        FallWith z = new FallWith();
        z.act(0, 0, 1, 0);
        z.act(50, 0, 1, 0);
        Stories.lean(z, 0, "b");
        is("leans on a later one", z.safe(0), 50);
    }

    private static void byEachOneAskingMore() {
        FallWith x = new FallWith();
        x.act(40, 0, 1, 0);
        for (int flaw = 2; flaw <= 4; flaw++) {
            x.set(0, 0, flaw);
            for (int years : new int[] {0, 1, 57, 58, 59, 60, 99}) {
                x.set(0, 1, years);
                is("flaw " + flaw + ", years " + years, x.safe(0), 41 + years > 99 ? NONE : 41 + years);
            }
            x.set(0, 2, 50);
            is("healed", x.safe(0), 50);
            x.set(0, 2, 99);
            is("healed on the last day", x.safe(0), 99);
            x.set(0, 2, 40);
            is("healed on its own day", x.safe(0), 40);
            x.set(0, 2, -1);
        }
        x.set(0, 1, 20);
        x.ask(0, 0, 39);
        is("an asking that does not count", x.safe(0), 61);
        x.ask(0, 0, 60);
        is("an asking that counts", x.safe(0), NONE);
    }

    private static void askingsForOthers() {
        FallWith x = Stories.withActs(12);
        for (int act = 0; act < 11; act++) {
            x.set(act, 0, 4);
            x.set(act, 1, act);
        }
        Stories.lean(x, 11, "a|b|c|d|e|f|g|h|i|j|k");
        is("one asking more lets but one of eleven fall", x.safe(11), 0);
        Stories.lean(x, 11, "a|b");
        is("one of two", x.safe(11), 0);
        Stories.lean(x, 11, "a+b");
        is("both, till the later one's years are over", x.safe(11), 2);
        Stories.lean(x, 11, "k");
        is("the one with most years", x.safe(11), 11);
        Stories.lean(x, 10, "a");
        x.set(10, 0, 0);
        is("on what leans on an other one", x.safe(11), 1);
        x.law(0, 1);
        x.set(10, 3, 1);
        is("that is GOOD", x.safe(11), 0);
    }

    private static void safeOnlyLooks() {
        for (int act = 0; act < 5; act++) {
            int one = act;
            edges.unchanged("safe(" + act + ")", Stories::some, x -> x.safe(one));
        }
    }

    // ---- promise 24

    private static void beside() {
        edges.test(24, "BESIDE, as bits. OUTSIDE.", EdgesOfHoldsTest::dayOfBeside);
        edges.test(24, "ACTS that stand on a DAY by one LAW and not by the other one", EdgesOfHoldsTest::noneAndAllBeside);
        edges.test(24, "ACTS that stand on a DAY by one LAW and not by the other one", EdgesOfHoldsTest::besideOnDays);
        edges.test(24, CHANGE_NOTHING, EdgesOfHoldsTest::besideOnlyLooks);
    }

    private static void dayOfBeside() {
        for (int day : Edges.NO_DAYS) {
            edges.refused("beside(" + day + ")", Stories::some, x -> x.beside(day), OUTSIDE);
            edges.refused("beside(" + day + ")", Stories::none, x -> x.beside(day), OUTSIDE);
        }
    }

    private static void noneAndAllBeside() {
        is("no acts", new FallWith().beside(0), 0);
        for (int law = 0; law < 2; law++) {
            FallWith x = Stories.withActs(12);
            x.law(0, law);
            for (int act = 0; act < 12; act++) {
                x.set(act, 3, 1);
            }
            is("all GOOD, all held up", x.beside(0), 0);
            for (int act = 0; act < 12; act++) {
                Stories.lean(x, act, Stories.letter((act + 1) % 12));
            }
            is("held up round", x.beside(0), 0);
            x.set(11, 0, 1);
            is("one is not SOUND", x.beside(0), 2047);
            for (int act = 0; act < 11; act++) {
                x.set(act, 3, 0);
            }
            is("none that is SOUND is GOOD", x.beside(0), 0);
            x.set(10, 3, 1);
            is("one holds up all", x.beside(0), 2047);
            is("LAW is left", x.told(3), law);
        }
        FallWith y = Stories.withActs(12);
        y.set(0, 3, 1);
        Stories.lean(y, 0, "a+l");
        for (int act = 1; act < 12; act++) {
            Stories.lean(y, act, "a");
        }
        is("round, none falls by LAW 0", y.beside(0), 0);
    }

    private static void besideOnDays() {
        FallWith x = new FallWith();
        x.act(50, 0, 1, 0);
        x.act(99, 0, 1, 0);
        x.set(0, 3, 1);
        Stories.lean(x, 0, "b");
        is("not done", x.beside(49), 0);
        is("done, what it leans on is not", x.beside(50), 1);
        is("the day ahead", x.beside(98), 1);
        is("both are done", x.beside(99), 0);
        x.set(0, 0, 4);
        x.ask(0, 0, 60);
        is("the day ahead of an asking", x.beside(59), 1);
        is("the day of an asking", x.beside(60), 0);
    }

    private static void besideOnlyLooks() {
        edges.unchanged("beside(50)", Stories::some, x -> x.beside(50));
        edges.unchanged("beside(50)", Stories::full, x -> x.beside(50));
    }

    // ---- promise 25

    private static void told() {
        edges.test(25, "0 ACTS, 1 ASKINGS, 2 signs, 3 LAW, 4 RATE, 10 to 21 ALLS of ACTS. OUTSIDE.", EdgesOfHoldsTest::whatOfTold);
        edges.test(25, "(0 of ACTS that there are not.)", EdgesOfHoldsTest::allsOfActsThatThereAreNot);
        edges.test(25, "0 ACTS, 1 ASKINGS, 2 signs, 3 LAW, 4 RATE, 10 to 21 ALLS of ACTS.", EdgesOfHoldsTest::noneAndMostTold);
        edges.test(25, CHANGE_NOTHING, EdgesOfHoldsTest::toldOnlyLooks);
    }

    private static void whatOfTold() {
        for (int what : new int[] {MIN_VALUE, -256, -1, 5, 6, 7, 8, 9, 22, 23, 32, 256, 65536, MAX_VALUE}) {
            edges.refused("told(" + what + ")", Stories::none, x -> x.told(what), OUTSIDE);
            edges.refused("told(" + what + ")", Stories::full, x -> x.told(what), OUTSIDE);
        }
    }

    private static void allsOfActsThatThereAreNot() {
        for (int n = 0; n <= 12; n++) {
            FallWith x = Stories.withActs(n);
            for (int act = 0; act < n; act++) {
                Stories.lean(x, act, "a|b");
            }
            for (int act = 0; act < 12; act++) {
                is("of act " + act + ", there are " + n, x.told(10 + act), act < n ? 2 : 0);
            }
        }
    }

    private static void noneAndMostTold() {
        int[] none = {0, 0, 0, 0, 1};
        int[] most = {12, 12, 40, 1, 9};
        FallWith x = new FallWith();
        FallWith y = Stories.after(Stories::full);
        y.law(0, 1);
        y.law(1, 9);
        for (int what = 0; what <= 4; what++) {
            is("of a new object, " + what, x.told(what), none[what]);
            is("the most, " + what, y.told(what), most[what]);
        }
        FallWith z = Stories.withActs(12);
        Stories.lean(z, 0, "a|".repeat(19) + "a");
        Stories.lean(z, 11, "a+".repeat(19) + "a");
        is("twenty ALLS of the first", z.told(10), 20);
        is("one ALL of the last", z.told(21), 1);
        is("none of the others", z.told(11), 0);
    }

    private static void toldOnlyLooks() {
        for (int what = 0; what <= 21; what++) {
            int one = what;
            edges.unchanged("told(" + what + ")", Stories::ready, x -> x.told(one));
        }
    }
}
