import static java.lang.Integer.MAX_VALUE;
import static java.lang.Integer.MIN_VALUE;

import java.io.IOException;

/** Promises 10 to 15, sentence by sentence: the boundary cases of askings, and of what stands and why not. */
public final class EdgesOfAskingsTest {
    private static final int UNKNOWN = Edges.UNKNOWN, OUTSIDE = Edges.OUTSIDE, FULL = Edges.FULL, NO = Edges.NO;
    private static final String FIRST_THAT_FITS = "Calls that are refused answer, the first of these that fits";
    private static final String CHANGE_NOTHING = "They change nothing.";
    private static Edges edges;

    public static void main(String[] args) throws IOException {
        edges = new Edges();
        ask();
        counts();
        drop();
        all();
        why();
        under();
        edges.close(10, 15);
    }

    private static void is(String call, int got, int want) {
        edges.is(call, got, want);
    }

    /** One act of DAY 40 from WHO 1 to WHO 2, with a flaw. */
    private static FallWith flawed(int flaw) {
        FallWith x = new FallWith();
        x.act(40, 1, 2, 10);
        x.set(0, 0, flaw);
        return x;
    }

    // ---- promise 10

    private static void ask() {
        edges.test(10, "UNKNOWN -1 (there is no such ACT, ASKING, WHO)", EdgesOfAskingsTest::actOfAsk);
        edges.test(10, "WHO are 0 to 3", EdgesOfAskingsTest::whoOfAsk);
        edges.test(10, "DAYS are 0 to 99", EdgesOfAskingsTest::dayOfAsk);
        edges.test(10, "ASKINGS, 12 at most, numbered from 0 on", EdgesOfAskingsTest::twelveAskings);
        edges.test(10, "for an ACT, by WHO, on a DAY", EdgesOfAskingsTest::askingsThatDoNotCount);
        edges.test(10, FIRST_THAT_FITS, EdgesOfAskingsTest::firstRefusalOfAsk);
        edges.test(10, CHANGE_NOTHING, EdgesOfAskingsTest::roomIsLeftByRefusedAsk);
    }

    private static void refusedAsk(Stories.Story story, int act, int who, int day, int want) {
        edges.refused("ask(" + act + ", " + who + ", " + day + ")", story, x -> x.ask(act, who, day), want);
    }

    private static void actOfAsk() {
        for (int act : Edges.noActs(5)) {
            refusedAsk(Stories::some, act, 0, 0, UNKNOWN);
        }
        for (int act : Edges.noActs(11)) {
            refusedAsk(Stories::almost, act, 3, 99, UNKNOWN);
        }
        FallWith x = Stories.withActs(12);
        is("for the first act", x.ask(0, 0, 0), 0);
        is("for the last act", x.ask(11, 0, 0), 1);
    }

    private static void whoOfAsk() {
        for (int who : Edges.NO_WHOS) {
            refusedAsk(Stories::some, 0, who, 50, UNKNOWN);
        }
        for (int who = 0; who < 4; who++) {
            FallWith x = flawed(4);
            is("by WHO " + who, x.ask(0, who, 40), 0);
            is("counts", x.counts(0), 1);
        }
    }

    private static void dayOfAsk() {
        for (int day : Edges.NO_DAYS) {
            refusedAsk(Stories::some, 0, 0, day, OUTSIDE);
        }
        for (int day = 0; day <= 99; day++) {
            FallWith x = flawed(4);
            is("on day " + day, x.ask(0, 0, day), 0);
            is("counts", x.counts(0), day >= 40 ? 1 : 0);
        }
    }

    private static void twelveAskings() {
        FallWith x = Stories.withActs(2);
        for (int k = 0; k < 12; k++) {
            is("told ahead of it", x.told(1), k);
            is("asking " + k, x.ask(k % 2, k % 4, k), k);
        }
        for (int k = 0; k < 20; k++) {
            is("one more", x.ask(0, 0, 0), FULL);
        }
        is("told", x.told(1), 12);
        refusedAsk(Stories::full, 11, 3, 99, FULL);
        refusedAsk(Stories::fullOfAskings, 0, 0, 0, FULL);
        is("twelve acts are no hindrance", Stories.after(Stories::fullOfActs).ask(11, 3, 99), 3);
        is("forty signs are no hindrance", Stories.after(Stories::fullOfSigns).ask(0, 0, 0), 3);
    }

    private static void askingsThatDoNotCount() {
        FallWith x = flawed(0);
        is("for an act without a flaw", x.ask(0, 0, 99), 0);
        is("ahead of the act's day", x.ask(0, 1, 0), 1);
        is("the same once more", x.ask(0, 1, 0), 2);
        is("told", x.told(1), 3);
        is("does not count", x.counts(0), 0);
        is("stands", x.all(99, 1), 1);
        x.set(0, 0, 4);
        is("counts now", x.counts(0), 1);
        is("falls", x.all(99, 1), 0);
    }

    private static void firstRefusalOfAsk() {
        refusedAsk(Stories::some, 5, 0, 100, UNKNOWN);
        refusedAsk(Stories::some, 0, 4, 100, UNKNOWN);
        refusedAsk(Stories::some, 0, -1, -1, UNKNOWN);
        refusedAsk(Stories::none, 0, 0, 100, UNKNOWN);
        refusedAsk(Stories::full, 12, 0, 0, UNKNOWN);
        refusedAsk(Stories::full, 0, 4, 0, UNKNOWN);
        refusedAsk(Stories::full, 12, 4, 100, UNKNOWN);
        refusedAsk(Stories::full, 0, 0, 100, OUTSIDE);
        refusedAsk(Stories::full, 0, 0, -1, OUTSIDE);
        refusedAsk(Stories::full, 0, 0, MIN_VALUE, OUTSIDE);
    }

    private static void roomIsLeftByRefusedAsk() {
        FallWith x = Stories.withActs(1);
        for (int k = 0; k < 11; k++) {
            x.ask(0, 0, 0);
        }
        is("refused", x.ask(1, 0, 0), UNKNOWN);
        is("refused", x.ask(0, 0, 100), OUTSIDE);
        is("the twelfth", x.ask(0, 0, 0), 11);
        is("the thirteenth", x.ask(0, 0, 0), FULL);
    }

    // ---- promise 11

    private static void counts() {
        edges.test(11, "Whether an ASKING COUNTS: 1, 0. UNKNOWN.", EdgesOfAskingsTest::askingOfCounts);
        edges.test(11, "2 its GIVER, 3 its TAKER, 4 anybody may ask for it", EdgesOfAskingsTest::flawLets);
        edges.test(11, "the DAY is not ahead of the ACT's", EdgesOfAskingsTest::notAhead);
        edges.test(11, "no more than YEARS behind it", EdgesOfAskingsTest::noMoreThanYears);
        edges.test(11, "the ACT is not HEALED by then", EdgesOfAskingsTest::notHealedByThen);
        edges.test(11, CHANGE_NOTHING, EdgesOfAskingsTest::countsOnlyLooks);
    }

    private static void askingOfCounts() {
        for (int asking : Edges.noActs(3)) {
            edges.refused("counts(" + asking + ")", Stories::some, x -> x.counts(asking), UNKNOWN);
        }
        for (int asking : Edges.noActs(12)) {
            edges.refused("counts(" + asking + ")", Stories::full, x -> x.counts(asking), UNKNOWN);
        }
        edges.refused("counts(0)", Stories::none, x -> x.counts(0), UNKNOWN);
        FallWith x = flawed(4);
        for (int k = 0; k < 12; k++) {
            x.ask(0, 0, k == 0 || k == 11 ? 40 : 39);
        }
        is("the first", x.counts(0), 1);
        is("the second", x.counts(1), 0);
        is("the twelfth", x.counts(11), 1);
        x.drop();
        is("gone", x.counts(11), UNKNOWN);
        is("the last that is left", x.counts(10), 0);
    }

    private static void flawLets() {
        int[][] lets = {{0, 0, 0, 0}, {0, 0, 0, 0}, {0, 1, 0, 0}, {0, 0, 1, 0}, {1, 1, 1, 1}};
        for (int flaw = 0; flaw <= 4; flaw++) {
            FallWith x = flawed(flaw);
            for (int who = 0; who < 4; who++) {
                x.ask(0, who, 40);
                is("flaw " + flaw + ", WHO " + who, x.counts(who), lets[flaw][who]);
            }
        }
    }

    private static int countsOn(int day, int years, int healed) {
        FallWith x = flawed(4);
        x.set(0, 1, years);
        x.set(0, 2, healed);
        x.ask(0, 0, day);
        return x.counts(0);
    }

    private static void notAhead() {
        for (int day = 0; day <= 99; day++) {
            is("on day " + day, countsOn(day, 99, -1), day >= 40 ? 1 : 0);
        }
    }

    private static void noMoreThanYears() {
        is("0 years, the act's day", countsOn(40, 0, -1), 1);
        is("0 years, the day behind", countsOn(41, 0, -1), 0);
        is("0 years, the day ahead", countsOn(39, 0, -1), 0);
        is("20 years, the last day", countsOn(60, 20, -1), 1);
        is("20 years, a day late", countsOn(61, 20, -1), 0);
        is("59 years, day 99", countsOn(99, 59, -1), 1);
        is("58 years, day 99", countsOn(99, 58, -1), 0);
        is("58 years, day 98", countsOn(98, 58, -1), 1);
        is("99 years, day 99", countsOn(99, 99, -1), 1);
        is("99 years are none ahead", countsOn(39, 99, -1), 0);
    }

    private static void notHealedByThen() {
        is("healed the day behind", countsOn(50, 99, 51), 1);
        is("healed that day", countsOn(50, 99, 50), 0);
        is("healed the day ahead", countsOn(50, 99, 49), 0);
        is("healed from DAY 0 on", countsOn(50, 99, 0), 0);
        is("healed ahead of the act's day", countsOn(40, 99, 39), 0);
        is("healed on DAY 99", countsOn(98, 99, 99), 1);
        is("healed on DAY 99", countsOn(99, 99, 99), 0);
        is("not healed", countsOn(99, 99, -1), 1);
    }

    private static void countsOnlyLooks() {
        edges.unchanged("counts(0)", Stories::some, x -> x.counts(0));
        edges.unchanged("counts(1)", Stories::some, x -> x.counts(1));
    }

    // ---- promise 12

    private static void drop() {
        edges.test(12, "The last ASKING goes: how many are left. NO: there is none.", EdgesOfAskingsTest::dropOfNone);
        edges.test(12, "The last ASKING goes: how many are left. NO: there is none.", EdgesOfAskingsTest::dropOfTwelve);
        edges.test(12, "The last ASKING goes: how many are left. NO: there is none.", EdgesOfAskingsTest::theLastOneGoes);
    }

    private static void dropOfNone() {
        edges.refused("drop()", Stories::none, FallWith::drop, NO);
        edges.refused("drop()", x -> {
            Stories.some(x);
            x.drop();
            x.drop();
            x.drop();
        }, FallWith::drop, NO);
        FallWith x = Stories.withActs(1);
        is("none", x.drop(), NO);
        is("none, again", x.drop(), NO);
        is("told", x.told(1), 0);
        is("the first", x.ask(0, 0, 0), 0);
        is("none is left", x.drop(), 0);
        is("none", x.drop(), NO);
    }

    private static void dropOfTwelve() {
        FallWith x = Stories.after(Stories::full);
        for (int left = 11; left >= 0; left--) {
            is("left", x.drop(), left);
            is("told", x.told(1), left);
            is("the one that went", x.counts(left), UNKNOWN);
        }
        is("none", x.drop(), NO);
        FallWith y = Stories.after(Stories::full);
        is("full", y.ask(0, 0, 0), FULL);
        y.drop();
        is("room for one", y.ask(0, 0, 0), 11);
        is("full again", y.ask(0, 0, 0), FULL);
    }

    private static void theLastOneGoes() {
        FallWith x = Stories.withActs(3);
        for (int act = 0; act < 3; act++) {
            x.set(act, 0, 4);
            x.ask(act, 0, 5);
        }
        is("all fell", x.all(5, 1), 0);
        x.drop();
        is("the third stands", x.all(5, 1), 4);
        x.drop();
        is("the second stands", x.all(5, 1), 6);
        x.drop();
        is("the first stands", x.all(5, 1), 7);
    }

    // ---- promise 13

    private static void all() {
        edges.test(13, "DAYS are 0 to 99", EdgesOfAskingsTest::dayOfAll);
        edges.test(13, "SOUND (how = 0), THE MOST (1), THE LEAST (2). OUTSIDE.", EdgesOfAskingsTest::howOfAll);
        edges.test(13, "if it was done by then", EdgesOfAskingsTest::doneByThen);
        edges.test(13, "it is not NOUGHT, or HEALED by then", EdgesOfAskingsTest::noughtOrHealed);
        edges.test(13, "no ASKING for it of that DAY or an earlier one COUNTS", EdgesOfAskingsTest::askingOfThatDay);
        edges.test(13, "THE MOST: the greatest set of SOUND ACTS such that each is HELD UP by the set (or needs not to be).",
                EdgesOfAskingsTest::mostRound);
        edges.test(13, "THE LEAST: what comes, if from nothing on again and again all SOUND ACTS come that are HELD UP by those that came"
                + " (or need not to be).", EdgesOfAskingsTest::leastRound);
        edges.test(13, "LAW 1: a GOOD ACT needs not to be HELD UP", EdgesOfAskingsTest::goodNeedsNot);
        edges.test(13, "ACTS, 12 at most", EdgesOfAskingsTest::noneAndTwelve);
        edges.test(13, CHANGE_NOTHING, EdgesOfAskingsTest::allOnlyLooks);
    }

    private static void dayOfAll() {
        for (int day : Edges.NO_DAYS) {
            for (int how = 0; how < 3; how++) {
                int one = how;
                edges.refused("all(" + day + ", " + how + ")", Stories::some, x -> x.all(day, one), OUTSIDE);
                is("of no acts", new FallWith().all(day, how), OUTSIDE);
            }
        }
    }

    private static void howOfAll() {
        for (int how : new int[] {MIN_VALUE, -256, -1, 3, 256, 65536, MAX_VALUE}) {
            edges.refused("all(0, " + how + ")", Stories::some, x -> x.all(0, how), OUTSIDE);
            edges.refused("all(99, " + how + ")", Stories::some, x -> x.all(99, how), OUTSIDE);
            is("both are not as told", new FallWith().all(100, how), OUTSIDE);
        }
        FallWith x = Stories.withActs(3);
        Stories.lean(x, 1, "b");
        Stories.lean(x, 2, "l");
        is("SOUND", x.all(0, 0), 7);
        is("THE MOST", x.all(0, 1), 3);
        is("THE LEAST", x.all(0, 2), 1);
    }

    private static void doneByThen() {
        FallWith x = new FallWith();
        x.act(0, 0, 1, 0);
        x.act(1, 0, 1, 0);
        x.act(98, 0, 1, 0);
        x.act(99, 0, 1, 0);
        int[] days = {0, 1, 97, 98, 99};
        int[] done = {1, 3, 3, 7, 15};
        for (int k = 0; k < days.length; k++) {
            for (int how = 0; how < 3; how++) {
                is("all(" + days[k] + ", " + how + ")", x.all(days[k], how), done[k]);
            }
        }
    }

    private static void noughtOrHealed() {
        FallWith x = Stories.withActs(12);
        x.set(0, 0, 1);
        x.set(11, 0, 1);
        is("NOUGHT", x.all(0, 0), 2046);
        is("NOUGHT", x.all(99, 0), 2046);
        x.set(0, 2, 0);
        x.set(11, 2, 99);
        is("healed from DAY 0 on", x.all(0, 0), 2047);
        is("the day ahead", x.all(98, 0), 2047);
        is("healed from DAY 99 on", x.all(99, 0), 4095);
        FallWith y = new FallWith();
        y.act(50, 0, 1, 0);
        y.set(0, 0, 1);
        y.set(0, 2, 10);
        is("healed, but not done yet", y.all(49, 0), 0);
        is("healed ahead of its day", y.all(50, 0), 1);
    }

    private static void askingOfThatDay() {
        FallWith x = flawed(4);
        x.ask(0, 0, 70);
        is("the day ahead", x.all(69, 0), 1);
        is("that day", x.all(70, 0), 0);
        is("the day behind", x.all(71, 0), 0);
        is("the last day", x.all(99, 0), 0);
        x.set(0, 2, 71);
        is("healed behind an asking that counts", x.all(71, 0), 0);
        x.set(0, 2, 70);
        is("healed by then, it does not count", x.all(70, 0), 1);
        x.set(0, 2, -1);
        x.set(0, 1, 29);
        is("a day late, it does not count", x.all(70, 0), 1);
        x.set(0, 1, 30);
        is("in time", x.all(99, 0), 0);
        x.drop();
        x.set(0, 1, 99);
        x.ask(0, 0, 99);
        is("the day ahead of the last", x.all(98, 0), 1);
        is("the last day", x.all(99, 0), 0);
        x.drop();
        x.ask(0, 0, 40);
        is("on the act's own day", x.all(40, 0), 0);
        is("not done", x.all(39, 0), 0);
    }

    private static void mostRound() {
        FallWith x = Stories.withActs(1);
        Stories.lean(x, 0, "a");
        is("leans on itself", x.all(0, 1), 1);
        Stories.lean(x, 0, "a+b");
        is("on itself and one that there is not", x.all(0, 1), 0);
        FallWith y = Stories.chain(12);
        Stories.lean(y, 0, "l");
        is("twelve round", y.all(0, 1), 4095);
        for (int act = 0; act < 12; act++) {
            y.set(act, 0, 1);
            is("one of the round is not SOUND", y.all(0, 1), 0);
            is("the others are SOUND", y.all(0, 0), 4095 & ~(1 << act));
            y.set(act, 0, 0);
        }
        FallWith z = Stories.chain(12);
        is("a chain of twelve", z.all(0, 1), 4095);
        z.set(0, 0, 1);
        is("its first is not SOUND", z.all(0, 1), 0);
        z.set(0, 0, 0);
        z.set(11, 0, 1);
        is("its last is not SOUND", z.all(0, 1), 2047);
    }

    private static void leastRound() {
        FallWith x = Stories.withActs(1);
        Stories.lean(x, 0, "a");
        is("leans on itself", x.all(0, 2), 0);
        Stories.lean(x, 0, "a|b");
        is("on itself or one that there is not", x.all(0, 2), 0);
        FallWith y = Stories.chain(12);
        is("a chain of twelve", y.all(0, 2), 4095);
        Stories.lean(y, 0, "l");
        is("twelve round", y.all(0, 2), 0);
        y.free(11);
        is("a chain again, from the last on", y.all(0, 2), 4095);
        FallWith z = new FallWith();
        for (int k = 0; k < 12; k++) {
            z.act(0, 0, 1, 0);
        }
        for (int k = 0; k < 11; k++) {
            Stories.lean(z, k, Stories.letter(k + 1));
        }
        is("a chain of twelve, backwards", z.all(0, 2), 4095);
        z.set(11, 0, 1);
        is("its first is not SOUND", z.all(0, 2), 0);
    }

    private static void goodNeedsNot() {
        FallWith x = Stories.chain(12);
        Stories.lean(x, 0, "l");
        x.set(5, 3, 1);
        is("LAW 0, THE LEAST", x.all(0, 2), 0);
        x.law(0, 1);
        is("LAW 1, THE LEAST", x.all(0, 2), 4095);
        x.set(4, 0, 1);
        is("LAW 1, THE MOST", x.all(0, 1), 4095 & ~16);
        x.set(5, 0, 1);
        is("GOOD does not make it SOUND", x.all(0, 1), 0);
        is("GOOD does not make it SOUND", x.all(0, 2), 0);
        FallWith y = new FallWith();
        y.act(50, 0, 1, 0);
        y.set(0, 3, 1);
        y.law(0, 1);
        is("GOOD does not make it done", y.all(49, 1), 0);
        is("GOOD does not make it done", y.all(49, 2), 0);
        is("done", y.all(50, 2), 1);
    }

    private static void noneAndTwelve() {
        for (int n = 0; n <= 12; n++) {
            FallWith x = Stories.withActs(n);
            for (int how = 0; how < 3; how++) {
                is("of " + n, x.all(99, how), (1 << n) - 1);
            }
        }
    }

    private static void allOnlyLooks() {
        for (int how = 0; how < 3; how++) {
            int one = how;
            edges.unchanged("all(50, " + how + ")", Stories::some, x -> x.all(50, one));
        }
    }

    // ---- promise 14

    private static void why() {
        edges.test(14, "UNKNOWN -1 (there is no such ACT, ASKING, WHO)", EdgesOfAskingsTest::actOfWhy);
        edges.test(14, "DAYS are 0 to 99", EdgesOfAskingsTest::dayOfWhy);
        edges.test(14, FIRST_THAT_FITS, EdgesOfAskingsTest::firstRefusalOfWhy);
        edges.test(14, "0 it stands; 1 it was not done by then", EdgesOfAskingsTest::whyNotDone);
        edges.test(14, "2 NOUGHT, not HEALED", EdgesOfAskingsTest::whyNought);
        edges.test(14, "3 an ASKING COUNTS", EdgesOfAskingsTest::whyAsked);
        edges.test(14, "4 it is not HELD UP", EdgesOfAskingsTest::whyNotHeldUp);
        edges.test(14, CHANGE_NOTHING, EdgesOfAskingsTest::whyOnlyLooks);
    }

    private static void refusedWhy(Stories.Story story, int act, int day, int want) {
        edges.refused("why(" + act + ", " + day + ")", story, x -> x.why(act, day), want);
    }

    private static void actOfWhy() {
        for (int act : Edges.noActs(5)) {
            refusedWhy(Stories::some, act, 0, UNKNOWN);
        }
        for (int act : Edges.noActs(12)) {
            refusedWhy(Stories::full, act, 99, UNKNOWN);
        }
        is("of the first", Stories.withActs(12).why(0, 0), 0);
        is("of the last", Stories.withActs(12).why(11, 0), 0);
    }

    private static void dayOfWhy() {
        for (int day : Edges.NO_DAYS) {
            refusedWhy(Stories::some, 0, day, OUTSIDE);
            refusedWhy(Stories::full, 11, day, OUTSIDE);
        }
    }

    private static void firstRefusalOfWhy() {
        for (int day : Edges.NO_DAYS) {
            refusedWhy(Stories::none, 0, day, UNKNOWN);
            refusedWhy(Stories::some, 5, day, UNKNOWN);
            refusedWhy(Stories::some, -1, day, UNKNOWN);
        }
    }

    private static void whyNotDone() {
        FallWith x = new FallWith();
        x.act(0, 0, 1, 0);
        x.act(99, 0, 1, 0);
        is("done on day 0", x.why(0, 0), 0);
        is("the day ahead", x.why(1, 98), 1);
        is("its day", x.why(1, 99), 0);
        x.set(1, 0, 1);
        Stories.lean(x, 1, "l");
        is("not done, NOUGHT, not held up", x.why(1, 98), 1);
        is("NOUGHT, not held up", x.why(1, 99), 2);
        x.set(1, 0, 4);
        x.ask(1, 0, 50);
        is("not done, asked for", x.why(1, 60), 1);
    }

    private static void whyNought() {
        FallWith x = Stories.withActs(1);
        x.set(0, 0, 1);
        x.ask(0, 0, 0);
        is("NOUGHT, an asking does not count", x.why(0, 0), 2);
        x.set(0, 2, 50);
        is("the day ahead of healing", x.why(0, 49), 2);
        is("healed", x.why(0, 50), 0);
        Stories.lean(x, 0, "l");
        is("NOUGHT, not held up", x.why(0, 49), 2);
        is("healed, not held up", x.why(0, 50), 4);
    }

    private static void whyAsked() {
        FallWith x = flawed(4);
        x.ask(0, 3, 60);
        is("the day ahead", x.why(0, 59), 0);
        is("that day", x.why(0, 60), 3);
        is("the last day", x.why(0, 99), 3);
        Stories.lean(x, 0, "l");
        is("not held up", x.why(0, 59), 4);
        is("asked for, not held up", x.why(0, 60), 3);
        x.set(0, 2, 61);
        is("asked for, healed behind it", x.why(0, 61), 3);
        x.free(0);
        x.set(0, 2, 60);
        is("healed by then", x.why(0, 60), 0);
    }

    private static void whyNotHeldUp() {
        FallWith x = Stories.chain(12);
        for (int act = 0; act < 12; act++) {
            is("stands", x.why(act, 0), 0);
        }
        x.set(0, 0, 1);
        for (int act = 1; act < 12; act++) {
            is("falls with the first", x.why(act, 0), 4);
        }
        x.law(0, 1);
        x.set(6, 3, 1);
        is("the one ahead of the GOOD one", x.why(5, 0), 4);
        is("the GOOD one", x.why(6, 0), 0);
        is("the last", x.why(11, 0), 0);
        FallWith y = Stories.withActs(1);
        Stories.lean(y, 0, "a");
        is("by itself", y.why(0, 0), 0);
    }

    private static void whyOnlyLooks() {
        for (int act = 0; act < 5; act++) {
            int one = act;
            edges.unchanged("why(" + act + ", 50)", Stories::some, x -> x.why(one, 50));
        }
    }

    // ---- promise 15

    private static void under() {
        edges.test(15, "UNDER an ACT, as bits. UNKNOWN.", EdgesOfAskingsTest::actOfUnder);
        edges.test(15, "all that its text names, and what these lean on, and so on (ACTS that there are)", EdgesOfAskingsTest::underNone);
        edges.test(15, "all that its text names, and what these lean on, and so on (ACTS that there are)", EdgesOfAskingsTest::underMost);
        edges.test(15, "all that its text names, and what these lean on, and so on (ACTS that there are)", EdgesOfAskingsTest::underActsThatThereAre);
    }

    private static void actOfUnder() {
        for (int act : Edges.noActs(5)) {
            edges.refused("under(" + act + ")", Stories::some, x -> x.under(act), UNKNOWN);
        }
        for (int act : Edges.noActs(12)) {
            edges.refused("under(" + act + ")", Stories::full, x -> x.under(act), UNKNOWN);
        }
        edges.refused("under(0)", Stories::none, x -> x.under(0), UNKNOWN);
    }

    private static void underNone() {
        FallWith x = Stories.withActs(2);
        is("no text", x.under(0), 0);
        Stories.lean(x, 0, "a");
        is("itself", x.under(0), 1);
        Stories.lean(x, 0, "b");
        is("not itself", x.under(0), 2);
        Stories.lean(x, 1, "a");
        is("itself by the other one", x.under(0), 3);
        is("freed", x.free(0), 1);
        is("no text any more", x.under(0), 0);
        is("of the other one", x.under(1), 1);
    }

    private static void underMost() {
        FallWith x = Stories.chain(12);
        for (int act = 0; act < 12; act++) {
            is("chain, act " + act, x.under(act), (1 << act) - 1);
        }
        Stories.lean(x, 0, "l");
        for (int act = 0; act < 12; act++) {
            is("round, act " + act, x.under(act), 4095);
        }
        FallWith y = Stories.withActs(12);
        Stories.lean(y, 11, "a+b+c+d+e+f+g+h+i|j|k|l");
        is("all in one text", y.under(11), 4095);
        FallWith z = Stories.withActs(12);
        for (int act = 0; act < 11; act++) {
            Stories.lean(z, act, Stories.letter(act + 1));
        }
        is("a chain backwards", z.under(0), 4094);
        is("its last", z.under(11), 0);
    }

    private static void underActsThatThereAre() {
        FallWith x = Stories.withActs(1);
        Stories.lean(x, 0, "b+c|l");
        is("none of them is there", x.under(0), 0);
        x.act(99, 0, 1, 0);
        is("the second is there, whatever its day", x.under(0), 2);
        for (int k = 2; k < 11; k++) {
            x.act(0, 0, 1, 0);
        }
        is("the third is there", x.under(0), 6);
        x.act(0, 0, 1, 0);
        is("the twelfth is there", x.under(0), 6 + 2048);
        x.set(1, 0, 1);
        x.set(1, 3, 1);
        x.law(0, 1);
        is("whatever stands", x.under(0), 6 + 2048);
    }
}
