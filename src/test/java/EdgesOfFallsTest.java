import static java.lang.Integer.MAX_VALUE;
import static java.lang.Integer.MIN_VALUE;

import java.io.IOException;

/** Promises 16 to 19, sentence by sentence: the boundary cases of what falls, goes back, and of who would ask. */
public final class EdgesOfFallsTest {
    private static final int UNKNOWN = Edges.UNKNOWN, OUTSIDE = Edges.OUTSIDE, FULL = Edges.FULL, NO = Edges.NO, NONE = Edges.NONE;
    private static final int LOST = Edges.LOST;
    private static final String FIRST_THAT_FITS = "Calls that are refused answer, the first of these that fits";
    private static final String CHANGE_NOTHING = "They change nothing.";
    private static final String IN_TIME = "the DAY is not ahead of the ACT's and no more than YEARS behind it, and the ACT is not HEALED by then";
    private static Edges edges;

    public static void main(String[] args) throws IOException {
        edges = new Edges();
        fall();
        back();
        wise();
        rest();
        edges.close(16, 19);
    }

    private static void is(String call, int got, int want) {
        edges.is(call, got, want);
    }

    /** One act of DAY 40 from WHO 1 to WHO 2, worth 50, that anybody may ask for till DAY 60. */
    private static FallWith askable() {
        FallWith x = new FallWith();
        x.act(40, 1, 2, 50);
        x.set(0, 0, 4);
        x.set(0, 1, 20);
        return x;
    }

    /** Twelve acts, each leaning on the one ahead of it, the first one such that anybody may ask for it. */
    private static FallWith askableChain() {
        FallWith x = Stories.chain(12);
        x.set(0, 0, 4);
        return x;
    }

    // ---- promise 16

    private static void fall() {
        edges.test(16, "UNKNOWN -1 (there is no such ACT, ASKING, WHO)", EdgesOfFallsTest::actAndWhoOfFall);
        edges.test(16, "DAYS are 0 to 99", EdgesOfFallsTest::dayOfFall);
        edges.test(16, "NO: it would not COUNT", EdgesOfFallsTest::flawOfFall);
        edges.test(16, IN_TIME, EdgesOfFallsTest::inTimeOfFall);
        edges.test(16, FIRST_THAT_FITS, EdgesOfFallsTest::firstRefusalOfFall);
        edges.test(16, "ACTS, as bits (i = -2), how many STEPS (-1), ACTS of the i-th STEP, as bits; NONE.", EdgesOfFallsTest::numbersOfSteps);
        edges.test(16, "first the ACT itself (if it stood)", EdgesOfFallsTest::itDidNotStand);
        edges.test(16, "then again and again all that are not HELD UP any more by what is left", EdgesOfFallsTest::twelveSteps);
        edges.test(16, "then again and again all that are not HELD UP any more by what is left", EdgesOfFallsTest::twoSteps);
        edges.test(16, "then again and again all that are not HELD UP any more by what is left", EdgesOfFallsTest::whatIsLeft);
        edges.test(16, "on its DAY those that stand without it, and not with it", EdgesOfFallsTest::onItsDay);
        edges.test(16, "FALL of one ASKING more, that would COUNT", EdgesOfFallsTest::fallBesideTwelveAskings);
        edges.test(16, CHANGE_NOTHING, EdgesOfFallsTest::fallOnlyLooks);
    }

    private static void refusedFall(Stories.Story story, int act, int who, int day, int i, int want) {
        String name = "fall(" + act + ", " + who + ", " + day + ", " + i + ")";
        edges.refused(name, story, x -> x.fall(act, who, day, i), want);
    }

    private static void actAndWhoOfFall() {
        for (int i = -3; i <= 1; i++) {
            for (int act : Edges.noActs(5)) {
                refusedFall(Stories::some, act, 0, 50, i, UNKNOWN);
            }
            for (int act : Edges.noActs(12)) {
                refusedFall(Stories::full, act, 0, 50, i, UNKNOWN);
            }
            for (int who : Edges.NO_WHOS) {
                refusedFall(Stories::some, 0, who, 50, i, UNKNOWN);
            }
        }
        FallWith x = Stories.withActs(12);
        x.set(11, 0, 4);
        is("of the last act by the first WHO", x.fall(11, 0, 0, -2), 2048);
        is("of the last act by the last WHO", x.fall(11, 3, 0, 0), 2048);
    }

    private static void dayOfFall() {
        for (int day : Edges.NO_DAYS) {
            for (int i = -3; i <= 1; i++) {
                refusedFall(Stories::some, 0, 0, day, i, OUTSIDE);
            }
        }
        FallWith x = Stories.withActs(1);
        x.set(0, 0, 4);
        is("on DAY 0", x.fall(0, 0, 0, -2), 1);
        is("on DAY 99", x.fall(0, 0, 99, -2), 1);
    }

    private static void flawOfFall() {
        int[][] lets = {{NO, NO, NO, NO}, {NO, NO, NO, NO}, {NO, 1, NO, NO}, {NO, NO, 1, NO}, {1, 1, 1, 1}};
        for (int flaw = 0; flaw <= 4; flaw++) {
            FallWith x = askable();
            x.set(0, 0, flaw);
            for (int who = 0; who < 4; who++) {
                is("flaw " + flaw + ", WHO " + who, x.fall(0, who, 40, -2), lets[flaw][who]);
                is("how many", x.fall(0, who, 40, -1), lets[flaw][who]);
                is("the first", x.fall(0, who, 40, 0), lets[flaw][who]);
                is("the second", x.fall(0, who, 40, 1), lets[flaw][who] == NO ? NO : NONE);
                is("below", x.fall(0, who, 40, -3), lets[flaw][who] == NO ? NO : NONE);
            }
        }
        refusedFall(Stories::some, 4, 0, 99, -2, NO);
        refusedFall(Stories::some, 2, 2, 50, -1, NO);
        refusedFall(Stories::some, 1, 0, 50, 0, NO);
    }

    private static void inTimeOfFall() {
        int[] days = {0, 39, 40, 41, 59, 60, 61, 99};
        int[] due = {NO, NO, 1, 1, 1, 1, NO, NO};
        for (int k = 0; k < days.length; k++) {
            is("on day " + days[k], askable().fall(0, 0, days[k], -2), due[k]);
        }
        FallWith x = askable();
        x.set(0, 2, 50);
        is("the day ahead of healing", x.fall(0, 0, 49, -2), 1);
        is("the day of healing", x.fall(0, 0, 50, -2), NO);
        x.set(0, 2, 0);
        is("healed from DAY 0 on", x.fall(0, 0, 40, -2), NO);
        x.set(0, 2, -1);
        x.set(0, 1, 0);
        is("no YEARS, its day", x.fall(0, 0, 40, -2), 1);
        is("no YEARS, the day behind", x.fall(0, 0, 41, -2), NO);
        x.set(0, 1, 99);
        is("all YEARS", x.fall(0, 0, 99, -2), 1);
    }

    private static void firstRefusalOfFall() {
        refusedFall(Stories::some, 5, 0, 100, -3, UNKNOWN);
        refusedFall(Stories::some, 0, 4, -1, -3, UNKNOWN);
        refusedFall(Stories::some, 4, -1, 0, 0, UNKNOWN);
        refusedFall(Stories::none, 0, 0, 100, 0, UNKNOWN);
        refusedFall(Stories::some, 4, 0, 100, 0, OUTSIDE);
        refusedFall(Stories::some, 4, 0, -1, MIN_VALUE, OUTSIDE);
        refusedFall(Stories::some, 4, 0, MAX_VALUE, MAX_VALUE, OUTSIDE);
        refusedFall(Stories::some, 4, 0, 99, MIN_VALUE, NO);
        refusedFall(Stories::some, 4, 0, 99, -3, NO);
        refusedFall(Stories::some, 4, 0, 99, 12, NO);
        refusedFall(Stories::some, 4, 0, 99, MAX_VALUE, NO);
    }

    private static void numbersOfSteps() {
        FallWith x = askableChain();
        x.free(2);
        is("all of them", x.fall(0, 0, 9, -2), 3);
        is("how many", x.fall(0, 0, 9, -1), 2);
        is("the first", x.fall(0, 0, 9, 0), 1);
        is("the last", x.fall(0, 0, 9, 1), 2);
        for (int i : new int[] {2, 3, 11, 12, 13, 31, 32, 33, 64, 256, 65536, MAX_VALUE, -3, -4, -32, -64, -256, -65536, MIN_VALUE}) {
            is("no step " + i, x.fall(0, 0, 9, i), NONE);
        }
    }

    private static void itDidNotStand() {
        FallWith x = askable();
        Stories.lean(x, 0, "l");
        is("not held up, all", x.fall(0, 0, 50, -2), 0);
        is("not held up, how many", x.fall(0, 0, 50, -1), 0);
        for (int i : new int[] {MIN_VALUE, -3, 0, 1, MAX_VALUE}) {
            is("not held up, step " + i, x.fall(0, 0, 50, i), NONE);
        }
        x.free(0);
        x.ask(0, 3, 45);
        is("the day ahead of the asking that was told", x.fall(0, 0, 44, -2), 1);
        is("on its day, all", x.fall(0, 0, 45, -2), 0);
        is("on its day, how many", x.fall(0, 0, 45, -1), 0);
        is("on its day, the first", x.fall(0, 0, 45, 0), NONE);
    }

    private static void twelveSteps() {
        FallWith x = askableChain();
        is("all", x.fall(0, 3, 99, -2), 4095);
        is("how many", x.fall(0, 3, 99, -1), 12);
        for (int i = 0; i < 12; i++) {
            is("step " + i, x.fall(0, 3, 99, i), 1 << i);
        }
        is("no thirteenth", x.fall(0, 3, 99, 12), NONE);
        Stories.lean(x, 0, "l");
        is("round, all", x.fall(0, 3, 99, -2), 4095);
        is("round, how many", x.fall(0, 3, 99, -1), 12);
        is("round, the last", x.fall(0, 3, 99, 11), 2048);
    }

    private static void twoSteps() {
        FallWith x = Stories.withActs(12);
        x.set(0, 0, 4);
        for (int act = 1; act < 12; act++) {
            Stories.lean(x, act, "a");
        }
        is("how many", x.fall(0, 0, 0, -1), 2);
        is("the first", x.fall(0, 0, 0, 0), 1);
        is("the second", x.fall(0, 0, 0, 1), 4094);
        is("no third", x.fall(0, 0, 0, 2), NONE);
        Stories.lean(x, 11, "a|l");
        is("what holds itself up is left", x.fall(0, 0, 0, -2), 2047);
        x.law(0, 1);
        x.set(10, 3, 1);
        is("what is GOOD is left", x.fall(0, 0, 0, 1), 1022);
        x.set(0, 3, 1);
        is("GOOD does not help against an asking", x.fall(0, 0, 0, 0), 1);
        FallWith y = Stories.withActs(2);
        y.set(1, 0, 4);
        is("alone, how many", y.fall(1, 0, 0, -1), 1);
        is("alone, the first", y.fall(1, 0, 0, 0), 2);
        is("alone, no second", y.fall(1, 0, 0, 1), NONE);
    }

    /** What did not stand holds nothing up and is of no step. */
    private static void whatIsLeft() {
        FallWith x = Stories.withActs(4);
        x.set(0, 0, 4);
        x.set(2, 0, 1);
        Stories.lean(x, 1, "a|c|l");
        Stories.lean(x, 3, "c");
        is("all", x.fall(0, 0, 0, -2), 3);
        is("how many", x.fall(0, 0, 0, -1), 2);
        is("the second", x.fall(0, 0, 0, 1), 2);
        x.set(2, 0, 0);
        is("something else holds it up", x.fall(0, 0, 0, -2), 1);
        is("no second", x.fall(0, 0, 0, 1), NONE);
    }

    private static void onItsDay() {
        FallWith x = new FallWith();
        x.act(0, 0, 1, 0);
        x.act(50, 0, 1, 0);
        x.act(99, 0, 1, 0);
        x.set(0, 0, 4);
        Stories.lean(x, 1, "a");
        Stories.lean(x, 2, "a");
        is("day 0", x.fall(0, 0, 0, -2), 1);
        is("day 49", x.fall(0, 0, 49, -2), 1);
        is("day 50", x.fall(0, 0, 50, -2), 3);
        is("day 98", x.fall(0, 0, 98, -2), 3);
        is("day 99", x.fall(0, 0, 99, -2), 7);
    }

    private static void fallBesideTwelveAskings() {
        FallWith x = askableChain();
        for (int k = 0; k < 12; k++) {
            x.ask(11, 0, 0);
        }
        is("no room for a told one", x.ask(0, 0, 0), FULL);
        is("all", x.fall(0, 0, 9, -2), 4095);
        is("how many", x.fall(0, 0, 9, -1), 12);
        is("goes back", x.back(0, 0, 0, 0), 120);
        is("wise", x.wise(0, 0), 0);
        is("rest", x.rest(0, 0), 1);
    }

    private static void fallOnlyLooks() {
        for (int i = -3; i <= 2; i++) {
            int one = i;
            edges.unchanged("fall(0, 0, 50, " + i + ")", Stories::some, x -> x.fall(0, 0, 50, one));
            edges.unchanged("fall(4, 0, 50, " + i + ")", Stories::full, x -> x.fall(4, 0, 50, one));
        }
    }

    // ---- promise 17

    private static void back() {
        edges.test(17, "UNKNOWN, OUTSIDE, NO (LOST less 1, 2, 5)", EdgesOfFallsTest::unknownOfBack);
        edges.test(17, "DAYS are 0 to 99", EdgesOfFallsTest::dayOfBack);
        edges.test(17, "UNKNOWN, OUTSIDE, NO (LOST less 1, 2, 5)", EdgesOfFallsTest::noOfBack);
        edges.test(17, FIRST_THAT_FITS, EdgesOfFallsTest::firstRefusalOfBack);
        edges.test(17, "Quotients are cut.", EdgesOfFallsTest::fruitsAreCut);
        edges.test(17, "WORTH times RATE (0 to 9; 1 at first) times DAYS since it was done, by 100", EdgesOfFallsTest::leastAndMostFruits);
        edges.test(17, "go from its TAKER to its GIVER: what a WHO has more by all of it (perhaps below 0)", EdgesOfFallsTest::fromTakerToGiver);
        edges.test(17, "BACK: of each that falls", EdgesOfFallsTest::nothingFalls);
        edges.test(17, CHANGE_NOTHING, EdgesOfFallsTest::backOnlyLooks);
    }

    private static void refusedBack(Stories.Story story, int act, int who, int day, int whom, int want) {
        String name = "back(" + act + ", " + who + ", " + day + ", " + whom + ")";
        edges.refused(name, story, x -> x.back(act, who, day, whom), want);
    }

    private static void unknownOfBack() {
        for (int act : Edges.noActs(5)) {
            refusedBack(Stories::some, act, 0, 50, 0, LOST - 1);
        }
        for (int act : Edges.noActs(12)) {
            refusedBack(Stories::full, act, 0, 50, 0, LOST - 1);
        }
        for (int who : Edges.NO_WHOS) {
            refusedBack(Stories::some, 0, who, 50, 0, LOST - 1);
            refusedBack(Stories::some, 0, 0, 50, who, LOST - 1);
        }
        is("as a number", new FallWith().back(0, 0, 0, 0), -1000000001);
    }

    private static void dayOfBack() {
        for (int day : Edges.NO_DAYS) {
            refusedBack(Stories::some, 0, 0, day, 0, LOST - 2);
        }
        is("as a number", Stories.withActs(1).back(0, 0, 100, 0), -1000000002);
    }

    private static void noOfBack() {
        refusedBack(Stories::some, 4, 0, 99, 0, LOST - 5);
        refusedBack(Stories::some, 2, 2, 50, 3, LOST - 5);
        is("as a number", Stories.withActs(1).back(0, 0, 0, 0), -1000000005);
        int[] days = {0, 39, 40, 60, 61, 99};
        int[] due = {LOST - 5, LOST - 5, 50, 60, LOST - 5, LOST - 5};
        for (int k = 0; k < days.length; k++) {
            is("on day " + days[k], askable().back(0, 0, days[k], 1), due[k]);
        }
        FallWith x = askable();
        x.set(0, 2, 50);
        is("the day ahead of healing", x.back(0, 0, 49, 1), 54);
        is("the day of healing", x.back(0, 0, 50, 1), LOST - 5);
        x.set(0, 2, -1);
        x.set(0, 0, 2);
        is("not by the TAKER", x.back(0, 2, 40, 1), LOST - 5);
        is("by the GIVER", x.back(0, 1, 40, 1), 50);
    }

    private static void firstRefusalOfBack() {
        refusedBack(Stories::some, 5, 0, 100, 0, LOST - 1);
        refusedBack(Stories::some, 0, 4, -1, 0, LOST - 1);
        refusedBack(Stories::some, 0, 0, 100, 4, LOST - 1);
        refusedBack(Stories::some, 4, 0, 99, -1, LOST - 1);
        refusedBack(Stories::some, 4, 4, 99, 0, LOST - 1);
        refusedBack(Stories::some, 4, 0, 100, 0, LOST - 2);
        refusedBack(Stories::some, 4, 0, -1, 3, LOST - 2);
    }

    /** What goes back on a day of one act of DAY 0. */
    private static int backOf(int worth, int rate, int day, int whom) {
        FallWith x = new FallWith();
        x.act(0, 0, 1, worth);
        x.set(0, 0, 4);
        x.law(1, rate);
        return x.back(0, 0, day, whom);
    }

    private static void fruitsAreCut() {
        is("99 by 100", backOf(99, 1, 1, 0), 99);
        is("99 by 100, of the taker", backOf(99, 1, 1, 1), -99);
        is("100 by 100", backOf(50, 1, 2, 0), 51);
        is("100 by 100, of the taker", backOf(50, 1, 2, 1), -51);
        is("199 is not there, 198 by 100", backOf(99, 1, 2, 0), 100);
        is("198 by 100, of the taker", backOf(99, 1, 2, 1), -100);
        is("200 by 100", backOf(50, 2, 2, 0), 52);
        FallWith x = Stories.withActs(2);
        x.set(0, 0, 4);
        Stories.lean(x, 1, "a");
        is("twice 90 by 100, each cut by itself", x.back(0, 0, 9, 0), 20);
        is("twice 100 by 100", x.back(0, 0, 10, 0), 22);
        is("twice 190 by 100", x.back(0, 0, 19, 1), -22);
        FallWith y = new FallWith();
        y.act(0, 0, 1, 10);
        y.act(0, 1, 0, 9);
        y.set(0, 0, 4);
        Stories.lean(y, 1, "a");
        is("100 by 100 less 90 by 100", y.back(0, 0, 10, 0), 11 - 9);
        is("the other one", y.back(0, 0, 10, 1), 9 - 11);
    }

    private static void leastAndMostFruits() {
        is("RATE 0", backOf(99, 0, 99, 0), 99);
        is("RATE 9", backOf(99, 9, 99, 0), 99 + 882);
        is("on its own day", backOf(99, 9, 0, 0), 99);
        is("no WORTH", backOf(0, 9, 99, 0), 0);
        FallWith x = new FallWith();
        for (int k = 0; k < 12; k++) {
            x.act(0, 3, 2, 99);
            if (k > 0) {
                Stories.lean(x, k, "a");
            }
        }
        x.set(0, 0, 4);
        is("RATE 1 at first", x.back(0, 0, 99, 3), 12 * (99 + 98));
        x.law(1, 9);
        is("the most", x.back(0, 0, 99, 3), 12 * 981);
        is("the least", x.back(0, 0, 99, 2), -12 * 981);
        is("of others", x.back(0, 0, 99, 0), 0);
    }

    private static void fromTakerToGiver() {
        FallWith x = askable();
        int[] due = {0, 50, -50, 0};
        for (int who = 0; who < 4; who++) {
            for (int whom = 0; whom < 4; whom++) {
                is("asked by " + who + ", of " + whom, x.back(0, who, 40, whom), due[whom]);
            }
        }
        FallWith y = new FallWith();
        y.act(0, 0, 3, 20);
        y.act(0, 3, 0, 20);
        y.set(0, 0, 4);
        Stories.lean(y, 1, "a");
        is("there and back", y.back(0, 0, 0, 0), 0);
        is("there and back", y.back(0, 0, 0, 3), 0);
        y.law(1, 9);
        is("with fruits", y.back(0, 0, 99, 3), 0);
    }

    private static void nothingFalls() {
        FallWith x = askable();
        x.ask(0, 0, 45);
        for (int whom = 0; whom < 4; whom++) {
            is("it fell already", x.back(0, 0, 45, whom), 0);
        }
        is("the day ahead", x.back(0, 0, 44, 1), 52);
        FallWith y = askable();
        Stories.lean(y, 0, "l");
        is("it did not stand", y.back(0, 0, 50, 1), 0);
        y.free(0);
        y.act(50, 3, 0, 10);
        Stories.lean(y, 1, "a");
        is("the second is not done yet", y.back(0, 0, 49, 3), 0);
        is("it is done", y.back(0, 0, 50, 3), 10);
        y.set(1, 0, 1);
        is("it did not stand", y.back(0, 0, 50, 3), 0);
    }

    private static void backOnlyLooks() {
        for (int whom = 0; whom < 4; whom++) {
            int one = whom;
            edges.unchanged("back(0, 0, 50, " + whom + ")", Stories::some, x -> x.back(0, 0, 50, one));
        }
    }

    // ---- promise 18

    private static void wise() {
        edges.test(18, "WISE; NONE. UNKNOWN; OUTSIDE.", EdgesOfFallsTest::actOfWise);
        edges.test(18, "DAYS are 0 to 99", EdgesOfFallsTest::dayOfWise);
        edges.test(18, FIRST_THAT_FITS, EdgesOfFallsTest::firstRefusalOfWise);
        edges.test(18, "by whom an ASKING for an ACT on a DAY would COUNT", EdgesOfFallsTest::wiseInTime);
        edges.test(18, "who has more by it", EdgesOfFallsTest::hasMore);
        edges.test(18, "WISE: the first WHO", EdgesOfFallsTest::firstWho);
        edges.test(18, CHANGE_NOTHING, EdgesOfFallsTest::wiseOnlyLooks);
    }

    private static void refusedWise(Stories.Story story, int act, int day, int want) {
        edges.refused("wise(" + act + ", " + day + ")", story, x -> x.wise(act, day), want);
    }

    private static void actOfWise() {
        for (int act : Edges.noActs(5)) {
            refusedWise(Stories::some, act, 50, UNKNOWN);
        }
        for (int act : Edges.noActs(12)) {
            refusedWise(Stories::full, act, 50, UNKNOWN);
        }
        FallWith x = Stories.withActs(12);
        x.set(11, 0, 4);
        is("of the last act", x.wise(11, 0), 0);
        is("of the first act", x.wise(0, 0), NONE);
    }

    private static void dayOfWise() {
        for (int day : Edges.NO_DAYS) {
            refusedWise(Stories::some, 0, day, OUTSIDE);
            refusedWise(Stories::some, 4, day, OUTSIDE);
        }
    }

    private static void firstRefusalOfWise() {
        for (int day : Edges.NO_DAYS) {
            refusedWise(Stories::none, 0, day, UNKNOWN);
            refusedWise(Stories::some, 5, day, UNKNOWN);
            refusedWise(Stories::some, -1, day, UNKNOWN);
        }
    }

    private static void wiseInTime() {
        int[] days = {0, 39, 40, 60, 61, 99};
        int[] due = {NONE, NONE, 1, 1, NONE, NONE};
        for (int k = 0; k < days.length; k++) {
            is("on day " + days[k], askable().wise(0, days[k]), due[k]);
        }
        FallWith x = askable();
        x.set(0, 2, 50);
        is("the day ahead of healing", x.wise(0, 49), 1);
        is("the day of healing", x.wise(0, 50), NONE);
        x.set(0, 2, -1);
        int[] byFlaw = {NONE, NONE, 1, NONE, 1};
        for (int flaw = 0; flaw <= 4; flaw++) {
            x.set(0, 0, flaw);
            is("flaw " + flaw, x.wise(0, 40), byFlaw[flaw]);
        }
        x.ask(0, 0, 45);
        is("the day ahead of an asking", x.wise(0, 44), 1);
        is("it fell already", x.wise(0, 45), NONE);
    }

    private static void hasMore() {
        FallWith x = new FallWith();
        x.act(0, 0, 1, 0);
        x.set(0, 0, 4);
        is("nothing more", x.wise(0, 0), NONE);
        is("not even with fruits", x.wise(0, 99), NONE);
        FallWith y = new FallWith();
        y.act(0, 0, 1, 1);
        y.set(0, 0, 4);
        is("one more", y.wise(0, 0), 0);
        y.act(0, 1, 0, 1);
        Stories.lean(y, 1, "a");
        is("one more and one less", y.wise(0, 0), NONE);
        FallWith z = new FallWith();
        z.act(0, 0, 1, 10);
        z.act(0, 1, 0, 9);
        z.set(0, 0, 2);
        Stories.lean(z, 1, "a");
        is("ten more and nine less", z.wise(0, 0), 0);
        z.set(0, 0, 3);
        is("the other one has less", z.wise(0, 0), NONE);
    }

    private static void firstWho() {
        for (int giver = 0; giver < 4; giver++) {
            FallWith x = new FallWith();
            x.act(0, giver, (giver + 1) % 4, 10);
            x.set(0, 0, 4);
            is("the giver " + giver, x.wise(0, 0), giver);
        }
        FallWith y = new FallWith();
        y.act(0, 3, 1, 10);
        y.act(0, 2, 1, 10);
        y.act(0, 0, 1, 0);
        y.set(0, 0, 4);
        is("alone", y.wise(0, 0), 3);
        Stories.lean(y, 1, "a");
        Stories.lean(y, 2, "a");
        is("the first of two that have more", y.wise(0, 0), 2);
        y.set(0, 0, 2);
        is("the one that may ask", y.wise(0, 0), 3);
    }

    private static void wiseOnlyLooks() {
        edges.unchanged("wise(0, 50)", Stories::some, x -> x.wise(0, 50));
        edges.unchanged("wise(4, 50)", Stories::full, x -> x.wise(4, 50));
    }

    // ---- promise 19

    private static void rest() {
        edges.test(19, "DAYS are 0 to 99", EdgesOfFallsTest::dayOfRest);
        edges.test(19, "REST: ASKINGS more (what = 0), ACTS that stand then, as bits (1). OUTSIDE.", EdgesOfFallsTest::whatOfRest);
        edges.test(19, "again and again the first ACT for which somebody is WISE is ASKED for by them on that DAY", EdgesOfFallsTest::noneAndTwelveMore);
        edges.test(19, "again and again the first ACT for which somebody is WISE is ASKED for by them on that DAY", EdgesOfFallsTest::theFirstAct);
        edges.test(19, "beside all ASKINGS that were told", EdgesOfFallsTest::besideTold);
        edges.test(19, "till there is none", EdgesOfFallsTest::tillThereIsNone);
        edges.test(19, CHANGE_NOTHING, EdgesOfFallsTest::restOnlyLooks);
    }

    private static void dayOfRest() {
        for (int day : Edges.NO_DAYS) {
            for (int what = 0; what < 2; what++) {
                int one = what;
                edges.refused("rest(" + day + ", " + what + ")", Stories::some, x -> x.rest(day, one), OUTSIDE);
                is("of no acts", new FallWith().rest(day, what), OUTSIDE);
            }
        }
    }

    private static void whatOfRest() {
        for (int what : new int[] {MIN_VALUE, -256, -1, 2, 256, 65536, MAX_VALUE}) {
            edges.refused("rest(0, " + what + ")", Stories::some, x -> x.rest(0, what), OUTSIDE);
            edges.refused("rest(99, " + what + ")", Stories::full, x -> x.rest(99, what), OUTSIDE);
            is("both are not as told", new FallWith().rest(100, what), OUTSIDE);
        }
    }

    private static void noneAndTwelveMore() {
        for (int n = 0; n <= 12; n++) {
            FallWith x = Stories.withActs(12);
            for (int act = 0; act < n; act++) {
                x.set(act, 0, 2);
            }
            is("askings for " + n, x.rest(0, 0), n);
            is("the others stand", x.rest(0, 1), 4095 & -(1 << n));
            is("none was told", x.told(1), 0);
        }
        is("a chain falls by one", askableChain().rest(0, 0), 1);
        is("none of it stands", askableChain().rest(0, 1), 0);
        FallWith y = askable();
        is("the day ahead", y.rest(39, 0), 0);
        is("its day", y.rest(40, 0), 1);
        is("its last day", y.rest(60, 0), 1);
        is("too late", y.rest(61, 0), 0);
        is("it stands", y.rest(61, 1), 1);
    }

    private static void theFirstAct() {
        FallWith x = Stories.chain(3);
        x.set(0, 0, 2);
        x.set(1, 0, 2);
        x.set(2, 0, 2);
        is("the first lets all fall", x.rest(0, 0), 1);
        FallWith y = Stories.withActs(3);
        Stories.lean(y, 0, "b");
        Stories.lean(y, 1, "c");
        for (int act = 0; act < 3; act++) {
            y.set(act, 0, 2);
        }
        is("one behind the other", y.rest(0, 0), 3);
        is("none stands", y.rest(0, 1), 0);
    }

    private static void besideTold() {
        FallWith x = Stories.withActs(12);
        for (int act = 0; act < 12; act++) {
            x.set(act, 0, 2);
            x.ask(act, act < 6 ? 0 : 1, 50);
        }
        is("the day ahead of the askings", x.rest(49, 0), 12);
        is("six fell already", x.rest(50, 0), 6);
        is("none is left", x.rest(50, 1), 0);
        is("twelve as before", x.told(1), 12);
        is("six stand as before", x.all(50, 1), 4032);
    }

    /** Each act pays its giver only when the one behind it, which leans on it, has fallen by itself. */
    private static void tillThereIsNone() {
        FallWith x = new FallWith();
        for (int k = 0; k < 4; k++) {
            x.act(0, k, (k + 3) % 4, 10 + k);
            x.set(k, 0, 2);
            if (k > 0) {
                Stories.lean(x, k, Stories.letter(k - 1));
            }
        }
        for (int act = 0; act < 3; act++) {
            is("not at first", x.wise(act, 0), NONE);
        }
        is("the last alone at first", x.wise(3, 0), 3);
        is("from the last to the first", x.rest(0, 0), 4);
        is("none stands", x.rest(0, 1), 0);
        x.set(1, 0, 0);
        is("one that nobody may ask for stops it", x.rest(0, 0), 2);
        is("the first two stand", x.rest(0, 1), 3);
        x.set(3, 0, 0);
        is("nobody begins", x.rest(0, 0), 0);
        is("all stand", x.rest(0, 1), 15);
    }

    private static void restOnlyLooks() {
        for (int what = 0; what < 2; what++) {
            int one = what;
            edges.unchanged("rest(50, " + what + ")", Stories::some, x -> x.rest(50, one));
            edges.unchanged("rest(45, " + what + ")", Stories::full, x -> x.rest(45, one));
        }
    }
}
