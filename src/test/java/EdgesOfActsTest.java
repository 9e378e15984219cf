import static java.lang.Integer.MAX_VALUE;
import static java.lang.Integer.MIN_VALUE;

import java.io.IOException;

/** Promises 1 to 9, sentence by sentence: the boundary cases of acts, settings, signs and texts. */
public final class EdgesOfActsTest {
    private static final int UNKNOWN = Edges.UNKNOWN, OUTSIDE = Edges.OUTSIDE, FULL = Edges.FULL, NO = Edges.NO, NONE = Edges.NONE;
    private static final String FIRST_THAT_FITS = "Calls that are refused answer, the first of these that fits";
    private static final String CHANGE_NOTHING = "They change nothing.";
    private static final int[][] SETTING_ENDS = {{0, 4}, {0, 99}, {-1, 99}, {0, 1}};
    private static Edges edges;

    public static void main(String[] args) throws IOException {
        edges = new Edges();
        newObject();
        act();
        set();
        law();
        say();
        wipe();
        fault();
        leans();
        free();
        edges.close(1, 9);
    }

    private static void is(String call, int got, int want) {
        edges.is(call, got, want);
    }

    // ---- promise 1

    private static void newObject() {
        edges.test(1, "No ACTS, ASKINGS", EdgesOfActsTest::newHasNone);
        edges.test(1, "No ACTS, ASKINGS", EdgesOfActsTest::newKnowsNoAct);
        edges.test(1, "No ACTS, ASKINGS", EdgesOfActsTest::newAnswersOfDays);
        edges.test(1, "LAW 0, RATE 1", EdgesOfActsTest::newLawAndRate);
        edges.test(1, "the PAD is empty", EdgesOfActsTest::newPad);
        edges.test(1, "An object is used for at most 512 calls after it has been made", EdgesOfActsTest::lastCallOfAll);
        edges.test(1, "A new object", EdgesOfActsTest::objectsAreApart);
    }

    private static void newHasNone() {
        FallWith x = new FallWith();
        is("told(0)", x.told(0), 0);
        is("told(1)", x.told(1), 0);
        is("counts(0)", x.counts(0), UNKNOWN);
        is("drop()", x.drop(), NO);
        is("the first act", x.act(0, 0, 1, 0), 0);
        is("the first asking", x.ask(0, 0, 0), 0);
    }

    private static void newKnowsNoAct() {
        for (int act : Edges.noActs(0)) {
            FallWith x = new FallWith();
            is("set", x.set(act, 0, 0), UNKNOWN);
            is("leans", x.leans(act), UNKNOWN);
            is("free", x.free(act), UNKNOWN);
            is("ask", x.ask(act, 0, 0), UNKNOWN);
            is("why", x.why(act, 0), UNKNOWN);
            is("under", x.under(act), UNKNOWN);
            is("fall", x.fall(act, 0, 0, 0), UNKNOWN);
            is("back", x.back(act, 0, 0, 0), Edges.LOST - 1);
            is("wise", x.wise(act, 0), UNKNOWN);
            is("hangs", x.hangs(act, 0, 0), UNKNOWN);
            is("safe", x.safe(act), UNKNOWN);
        }
    }

    private static void newAnswersOfDays() {
        FallWith x = new FallWith();
        for (int day = 0; day <= 99; day += 99) {
            for (int how = 0; how < 3; how++) {
                is("all(" + day + ", " + how + ")", x.all(day, how), 0);
            }
            is("rest, 0", x.rest(day, 0), 0);
            is("rest, 1", x.rest(day, 1), 0);
            is("heal of none", x.heal(0, day, 0), 0);
            is("heal of none", x.heal(0, day, 1), 0);
            is("heal of act 0", x.heal(1, day, 0), OUTSIDE);
            is("pillar", x.pillar(day, 0), NONE);
            is("pillar", x.pillar(day, 1), 0);
            is("beside", x.beside(day), 0);
        }
        for (int what = 10; what <= 21; what++) {
            is("told(" + what + ")", x.told(what), 0);
        }
    }

    private static void newLawAndRate() {
        FallWith x = new FallWith();
        is("LAW told", x.told(3), 0);
        is("RATE told", x.told(4), 1);
        is("LAW was", x.law(0, 1), 0);
        is("RATE was", x.law(1, 9), 1);
    }

    private static void newPad() {
        is("told(2)", new FallWith().told(2), 0);
        is("wipe()", new FallWith().wipe(), 0);
        is("fault()", new FallWith().fault(), 0);
        is("the first sign", new FallWith().say('a'), 1);
    }

    /** The 512th call is as good as the first one. */
    private static void lastCallOfAll() {
        FallWith x = new FallWith();
        x.act(0, 0, 1, 10);
        x.act(0, 1, 2, 10);
        Stories.lean(x, 1, "a");
        for (int k = 6; k < 512; k++) {
            is("call " + k, x.all(k % 100, 1), 3);
        }
        is("the 512th call", x.set(0, 0, 1), 0);
        FallWith y = new FallWith();
        for (int k = 0; k < 256; k++) {
            is("act", y.act(0, 0, 1, 10), k < 12 ? k : FULL);
            is("say", y.say('a'), k < 40 ? k + 1 : FULL);
        }
        FallWith z = Stories.withActs(1);
        for (int k = 1; k < 512; k++) {
            is("ask", z.ask(0, 0, 0), k <= 12 ? k - 1 : FULL);
        }
    }

    private static void objectsAreApart() {
        FallWith x = Stories.after(Stories::full);
        FallWith y = new FallWith();
        x.law(0, 1);
        x.law(1, 9);
        is("acts", y.told(0), 0);
        is("askings", y.told(1), 0);
        is("signs", y.told(2), 0);
        is("LAW", y.told(3), 0);
        is("RATE", y.told(4), 1);
        is("ALLS", y.told(11), 0);
        y.act(0, 0, 1, 0);
        y.act(0, 0, 1, 0);
        is("YEARS of the other one's act", y.set(1, 1, 0), 99);
        is("FLAW of the other one's act", y.set(1, 0, 0), 0);
        is("text of the other one's act", y.free(1), 0);
    }

    // ---- promise 2

    private static void act() {
        edges.test(2, "DAYS are 0 to 99", EdgesOfActsTest::dayOfAct);
        edges.test(2, "WHO are 0 to 3", EdgesOfActsTest::whoOfAct);
        edges.test(2, "UNKNOWN: GIVER, TAKER, also both are one", EdgesOfActsTest::giverIsTaker);
        edges.test(2, "of a WORTH (0 to 99)", EdgesOfActsTest::worthOfAct);
        edges.test(2, "ACTS, 12 at most, numbered from 0 on", EdgesOfActsTest::twelveActs);
        edges.test(2, "An ACT LEANS by a text of up to 40 signs (codes 33 to 126; none at first)", EdgesOfActsTest::noTextAtFirst);
        edges.test(2, FIRST_THAT_FITS, EdgesOfActsTest::firstRefusalOfAct);
        edges.test(2, CHANGE_NOTHING, EdgesOfActsTest::roomIsLeftByRefusedAct);
    }

    private static void refusedAct(Stories.Story story, int day, int giver, int taker, int worth, int want) {
        String name = "act(" + day + ", " + giver + ", " + taker + ", " + worth + ")";
        edges.refused(name, story, x -> x.act(day, giver, taker, worth), want);
    }

    private static void dayOfAct() {
        for (int day : Edges.NO_DAYS) {
            refusedAct(Stories::none, day, 0, 1, 0, OUTSIDE);
            refusedAct(Stories::some, day, 3, 2, 99, OUTSIDE);
        }
        for (int day = 0; day <= 99; day++) {
            FallWith x = new FallWith();
            is("act on day " + day, x.act(day, 0, 1, 0), 0);
            is("on its day", x.all(day, 0), 1);
            is("ahead of its day", x.all(day - 1, 0), day == 0 ? OUTSIDE : 0);
        }
    }

    private static void whoOfAct() {
        for (int who : Edges.NO_WHOS) {
            refusedAct(Stories::none, 0, who, 1, 0, UNKNOWN);
            refusedAct(Stories::none, 0, 1, who, 0, UNKNOWN);
            refusedAct(Stories::some, 0, who, 3, 0, UNKNOWN);
            refusedAct(Stories::some, 0, 0, who, 0, UNKNOWN);
            refusedAct(Stories::none, 0, who, who, 0, UNKNOWN);
        }
        for (int giver = 0; giver < 4; giver++) {
            for (int taker = 0; taker < 4; taker++) {
                if (giver != taker) {
                    FallWith x = new FallWith();
                    is("from " + giver + " to " + taker, x.act(5, giver, taker, 10), 0);
                    x.set(0, 0, 4);
                    for (int whom = 0; whom < 4; whom++) {
                        is("goes back", x.back(0, 0, 5, whom), whom == giver ? 10 : whom == taker ? -10 : 0);
                    }
                }
            }
        }
    }

    private static void giverIsTaker() {
        for (int who = 0; who < 4; who++) {
            refusedAct(Stories::none, 0, who, who, 0, UNKNOWN);
            refusedAct(Stories::almost, 99, who, who, 99, UNKNOWN);
        }
    }

    private static void worthOfAct() {
        for (int worth : Edges.NO_DAYS) {
            refusedAct(Stories::none, 0, 0, 1, worth, OUTSIDE);
            refusedAct(Stories::some, 99, 2, 1, worth, OUTSIDE);
        }
        for (int worth = 0; worth <= 99; worth++) {
            FallWith x = new FallWith();
            is("worth " + worth, x.act(0, 0, 1, worth), 0);
            x.set(0, 0, 4);
            is("goes back", x.back(0, 0, 0, 0), worth);
        }
    }

    private static void twelveActs() {
        FallWith x = new FallWith();
        for (int k = 0; k < 12; k++) {
            is("told ahead of it", x.told(0), k);
            is("act " + k, x.act(k, 0, 1, k), k);
        }
        is("told", x.told(0), 12);
        refusedAct(Stories::full, 0, 0, 1, 0, FULL);
        refusedAct(Stories::fullOfActs, 99, 3, 2, 99, FULL);
        is("twelve askings are no hindrance", Stories.after(Stories::fullOfAskings).act(0, 0, 1, 0), 5);
        is("forty signs are no hindrance", Stories.after(Stories::fullOfSigns).act(0, 0, 1, 0), 5);
        for (int k = 0; k < 20; k++) {
            is("one more", x.act(0, 0, 1, 0), FULL);
        }
        is("told", x.told(0), 12);
    }

    private static void noTextAtFirst() {
        FallWith x = Stories.withActs(12);
        int[] first = {0, 99, NONE, 0};
        for (int act = 0; act < 12; act++) {
            is("ALLS told", x.told(10 + act), 0);
            is("ALLS it had", x.free(act), 0);
            is("under", x.under(act), 0);
            for (int what = 0; what < 4; what++) {
                is("setting " + what + " at first", x.set(act, what, SETTING_ENDS[what][0]), first[what]);
            }
        }
    }

    private static void firstRefusalOfAct() {
        refusedAct(Stories::none, 100, 4, 1, 100, UNKNOWN);
        refusedAct(Stories::none, -1, 1, 1, 0, UNKNOWN);
        refusedAct(Stories::none, 0, 1, -1, -1, UNKNOWN);
        refusedAct(Stories::full, 0, -1, 1, 0, UNKNOWN);
        refusedAct(Stories::full, 0, 1, 4, 0, UNKNOWN);
        refusedAct(Stories::full, 0, 2, 2, 0, UNKNOWN);
        refusedAct(Stories::full, 100, 2, 2, 100, UNKNOWN);
        refusedAct(Stories::full, 100, 0, 1, 0, OUTSIDE);
        refusedAct(Stories::full, -1, 0, 1, 0, OUTSIDE);
        refusedAct(Stories::full, 0, 0, 1, 100, OUTSIDE);
        refusedAct(Stories::full, 0, 0, 1, -1, OUTSIDE);
    }

    private static void roomIsLeftByRefusedAct() {
        FallWith x = Stories.withActs(11);
        is("refused", x.act(0, 0, 0, 0), UNKNOWN);
        is("refused", x.act(100, 0, 1, 0), OUTSIDE);
        is("refused", x.act(0, 0, 1, 100), OUTSIDE);
        is("told", x.told(0), 11);
        is("the twelfth", x.act(0, 0, 1, 0), 11);
        is("the thirteenth", x.act(0, 0, 1, 0), FULL);
    }

    // ---- promise 3

    private static void set() {
        edges.test(3, "UNKNOWN -1 (there is no such ACT, ASKING, WHO)", EdgesOfActsTest::actOfSet);
        edges.test(3, "0 FLAW, 1 YEARS, 2 the DAY from which it is HEALED (-1: not), 3 GOOD of an ACT", EdgesOfActsTest::whatOfSet);
        edges.test(3, "OUTSIDE -2 (another number is not as told)", EdgesOfActsTest::valueOfSet);
        edges.test(3, "which it was (NONE of 2)", EdgesOfActsTest::whichItWas);
        edges.test(3, "YEARS: how many DAYS behind its own one may ask (0 to 99; 99 at first)", EdgesOfActsTest::yearsAtFirst);
        edges.test(3, "HEALED: from a DAY on, or not (at first)", EdgesOfActsTest::healedAtFirst);
        edges.test(3, FIRST_THAT_FITS, EdgesOfActsTest::firstRefusalOfSet);
        edges.test(3, CHANGE_NOTHING, EdgesOfActsTest::refusedSetKeepsValue);
    }

    private static void refusedSet(Stories.Story story, int act, int what, int v, int want) {
        edges.refused("set(" + act + ", " + what + ", " + v + ")", story, x -> x.set(act, what, v), want);
    }

    private static void actOfSet() {
        for (int what = 0; what < 4; what++) {
            for (int act : Edges.noActs(5)) {
                refusedSet(Stories::some, act, what, 1, UNKNOWN);
            }
            for (int act : Edges.noActs(12)) {
                refusedSet(Stories::full, act, what, 0, UNKNOWN);
            }
        }
        FallWith x = Stories.withActs(12);
        is("of the first act", x.set(0, 0, 4), 0);
        is("of the last act", x.set(11, 0, 3), 0);
        is("of the first act", x.set(0, 0, 0), 4);
        is("of the last act", x.set(11, 0, 0), 3);
    }

    private static void whatOfSet() {
        for (int what : Edges.NO_WHATS) {
            refusedSet(Stories::some, 0, what, 0, OUTSIDE);
        }
        for (int v = -1; v <= 1; v++) {
            refusedSet(Stories::some, 0, -1, v, OUTSIDE);
            refusedSet(Stories::some, 4, 4, v, OUTSIDE);
        }
    }

    private static void valueOfSet() {
        for (int what = 0; what < 4; what++) {
            int least = SETTING_ENDS[what][0];
            int greatest = SETTING_ENDS[what][1];
            for (int v : new int[] {MIN_VALUE, -256, -6, least - 1, greatest + 1, 256, 65536, MAX_VALUE}) {
                refusedSet(Stories::some, 0, what, v, OUTSIDE);
                refusedSet(Stories::some, 2, what, v, OUTSIDE);
                refusedSet(Stories::full, 11, what, v, OUTSIDE);
            }
        }
    }

    private static void whichItWas() {
        for (int what = 0; what < 4; what++) {
            FallWith x = Stories.withActs(3);
            x.set(1, what, SETTING_ENDS[what][0]);
            int was = SETTING_ENDS[what][0] == -1 ? NONE : SETTING_ENDS[what][0];
            for (int v = SETTING_ENDS[what][0] + 1; v <= SETTING_ENDS[what][1]; v++) {
                is("setting " + what + " becomes " + v, x.set(1, what, v), was);
                is("setting " + what + " as it is", x.set(1, what, v), v);
                was = v;
            }
            is("setting " + what + ", the least again", x.set(1, what, SETTING_ENDS[what][0]), SETTING_ENDS[what][1]);
            int first = what == 1 ? 99 : what == 2 ? NONE : 0;
            is("of the act ahead", x.set(0, what, 0), first);
            is("of the act behind", x.set(2, what, 0), first);
        }
    }

    private static void yearsAtFirst() {
        FallWith x = Stories.withActs(1);
        x.set(0, 0, 4);
        is("an asking 99 days behind", x.ask(0, 0, 99), 0);
        is("counts", x.counts(0), 1);
        is("YEARS were", x.set(0, 1, 98), 99);
        is("counts with 98", x.counts(0), 0);
    }

    private static void healedAtFirst() {
        FallWith x = Stories.withActs(1);
        x.set(0, 0, 1);
        is("not healed on day 99", x.why(0, 99), 2);
        is("from DAY 99 on", x.set(0, 2, 99), NONE);
        is("day 98", x.why(0, 98), 2);
        is("day 99", x.why(0, 99), 0);
        is("from DAY 0 on", x.set(0, 2, 0), 99);
        is("day 0", x.why(0, 0), 0);
        is("DAY 0 is a DAY, not NONE", x.set(0, 2, -1), 0);
        is("day 0", x.why(0, 0), 2);
        is("not healed is NONE", x.set(0, 2, -1), NONE);
    }

    private static void firstRefusalOfSet() {
        refusedSet(Stories::some, 5, 4, 0, UNKNOWN);
        refusedSet(Stories::some, -1, -1, 0, UNKNOWN);
        refusedSet(Stories::some, 5, 0, 5, UNKNOWN);
        refusedSet(Stories::some, 12, 2, -2, UNKNOWN);
        refusedSet(Stories::none, 0, 0, 5, UNKNOWN);
        refusedSet(Stories::none, 0, MAX_VALUE, MIN_VALUE, UNKNOWN);
    }

    private static void refusedSetKeepsValue() {
        int[] kept = {3, 7, 50, 1};
        for (int what = 0; what < 4; what++) {
            FallWith x = Stories.withActs(1);
            x.set(0, what, kept[what]);
            is("below", x.set(0, what, SETTING_ENDS[what][0] - 1), OUTSIDE);
            is("above", x.set(0, what, SETTING_ENDS[what][1] + 1), OUTSIDE);
            is("kept", x.set(0, what, 0), kept[what]);
        }
    }

    // ---- promise 4

    private static void law() {
        edges.test(4, "0 LAW, 1 RATE: which it was", EdgesOfActsTest::whichOfLaw);
        edges.test(4, "LAW 0 (at first): GOOD does not matter; LAW 1: a GOOD ACT needs not to be HELD UP.", EdgesOfActsTest::valueOfLaw);
        edges.test(4, "RATE (0 to 9; 1 at first)", EdgesOfActsTest::valueOfRate);
    }

    private static void refusedLaw(int which, int v) {
        edges.refused("law(" + which + ", " + v + ")", Stories::none, x -> x.law(which, v), OUTSIDE);
        edges.refused("law(" + which + ", " + v + ")", Stories::some, x -> x.law(which, v), OUTSIDE);
    }

    private static void whichOfLaw() {
        for (int which : Edges.NO_WHATS) {
            refusedLaw(which, 0);
            refusedLaw(which, 1);
        }
        refusedLaw(2, 0);
        refusedLaw(2, 1);
        refusedLaw(MIN_VALUE, MIN_VALUE);
        refusedLaw(MAX_VALUE, MAX_VALUE);
        FallWith x = new FallWith();
        is("LAW was", x.law(0, 1), 0);
        is("RATE is apart", x.law(1, 9), 1);
        is("LAW is apart", x.law(0, 0), 1);
        is("RATE was", x.law(1, 0), 9);
    }

    private static void valueOfLaw() {
        for (int v : new int[] {MIN_VALUE, -256, -1, 2, 9, 256, 65536, MAX_VALUE}) {
            refusedLaw(0, v);
        }
        FallWith x = Stories.withActs(1);
        Stories.lean(x, 0, "l");
        x.set(0, 3, 1);
        is("by LAW 0", x.all(0, 1), 0);
        is("LAW was", x.law(0, 1), 0);
        is("by LAW 1", x.all(0, 1), 1);
        is("LAW was", x.law(0, 1), 1);
        is("refused", x.law(0, 2), OUTSIDE);
        is("by LAW 1", x.all(0, 1), 1);
        is("LAW was", x.law(0, 0), 1);
        is("by LAW 0", x.all(0, 1), 0);
    }

    private static void valueOfRate() {
        for (int v : new int[] {MIN_VALUE, -256, -1, 10, 256, 65536, MAX_VALUE}) {
            refusedLaw(1, v);
        }
        FallWith x = new FallWith();
        x.law(1, 0);
        for (int rate = 0; rate <= 9; rate++) {
            is("RATE was", x.law(1, rate), Math.max(rate - 1, 0));
            is("told", x.told(4), rate);
        }
        is("refused", x.law(1, 10), OUTSIDE);
        is("kept", x.told(4), 9);
        is("refused", x.law(1, -1), OUTSIDE);
        is("kept", x.law(1, 1), 9);
    }

    // ---- promise 5

    private static void say() {
        edges.test(5, "(codes 33 to 126; none at first)", EdgesOfActsTest::codesOfSigns);
        edges.test(5, "a text of up to 40 signs", EdgesOfActsTest::fortySigns);
        edges.test(5, FIRST_THAT_FITS, EdgesOfActsTest::firstRefusalOfSay);
    }

    private static void codesOfSigns() {
        for (int sign : new int[] {MIN_VALUE, -159, -1, 0, 9, 10, 32, 127, 128, 255, 256 + 'a', 65536 + 'a', MAX_VALUE}) {
            edges.refused("say(" + sign + ")", Stories::none, x -> x.say(sign), OUTSIDE);
            edges.refused("say(" + sign + ")", Stories::some, x -> x.say(sign), OUTSIDE);
            edges.refused("say(" + sign + ")", Stories::almost, x -> x.say(sign), OUTSIDE);
        }
        for (int sign = 33; sign <= 126; sign++) {
            FallWith x = new FallWith();
            is("say(" + sign + ")", x.say(sign), 1);
            is("told", x.told(2), 1);
        }
    }

    private static void fortySigns() {
        FallWith x = new FallWith();
        for (int n = 1; n <= 40; n++) {
            is("told ahead of it", x.told(2), n - 1);
            is("sign " + n, x.say(n % 2 == 0 ? '+' : 'a'), n);
        }
        is("told", x.told(2), 40);
        for (int sign = 33; sign <= 126; sign++) {
            is("one more", x.say(sign), FULL);
        }
        is("told", x.told(2), 40);
        is("wiped", x.wipe(), 40);
        is("room again", x.say('a'), 1);
        edges.refused("say('a')", Stories::full, y -> y.say('a'), FULL);
        edges.refused("say(33)", Stories::fullOfSigns, y -> y.say(33), FULL);
        edges.refused("say(126)", Stories::fullOfSigns, y -> y.say(126), FULL);
        is("twelve acts are no hindrance", Stories.after(Stories::fullOfActs).say('a'), 3);
        is("twelve askings are no hindrance", Stories.after(Stories::fullOfAskings).say('a'), 3);
    }

    private static void firstRefusalOfSay() {
        for (int sign : new int[] {MIN_VALUE, -1, 0, 32, 127, MAX_VALUE}) {
            edges.refused("say(" + sign + ")", Stories::full, x -> x.say(sign), OUTSIDE);
        }
    }

    // ---- promise 6

    private static void wipe() {
        edges.test(6, "Signs go: how many there were.", EdgesOfActsTest::wipeCounts);
        edges.test(6, "Signs go: how many there were.", EdgesOfActsTest::wipeTakesSignsAlone);
    }

    private static void wipeCounts() {
        for (int n = 0; n <= 40; n++) {
            FallWith x = new FallWith();
            Stories.say(x, "!".repeat(n));
            is("wipe of " + n, x.wipe(), n);
            is("wipe again", x.wipe(), 0);
            is("told", x.told(2), 0);
            is("the fault of none", x.fault(), 0);
            is("the next sign is the first", x.say('a'), 1);
            is("nothing of the old ones is left", x.fault(), NONE);
        }
        edges.unchanged("wipe of none", Stories::none, FallWith::wipe);
    }

    private static void wipeTakesSignsAlone() {
        FallWith x = Stories.withActs(2);
        Stories.lean(x, 1, "a|l");
        x.ask(0, 0, 0);
        Stories.say(x, "b+");
        is("wipe", x.wipe(), 2);
        is("acts", x.told(0), 2);
        is("askings", x.told(1), 1);
        is("the text of an act", x.told(11), 2);
        is("its names", x.under(1), 1);
    }

    // ---- promise 7

    private static void fault() {
        edges.test(7, "the number of signs, if more must come", EdgesOfActsTest::moreMustCome);
        edges.test(7, "the place (from 0 on) of the first sign that can not stand there", EdgesOfActsTest::everySignAtThreePlaces);
        edges.test(7, "the place (from 0 on) of the first sign that can not stand there", EdgesOfActsTest::wrongSignAtEachPlace);
        edges.test(7, "letters a to l (ACTS 0 to 11, itself too, those that there are not yet as well)", EdgesOfActsTest::lettersOfTexts);
        edges.test(7, "THE FAULT of the signs; NONE.", EdgesOfActsTest::faultOnlyLooks);
    }

    private static int faultOf(String signs) {
        FallWith x = new FallWith();
        Stories.say(x, signs);
        return x.fault();
    }

    private static String signs(int n) {
        return "a+b|".repeat(10).substring(0, n);
    }

    private static void moreMustCome() {
        is("no signs", faultOf(""), 0);
        for (int n = 1; n <= 40; n++) {
            is(n + " signs", faultOf(signs(n)), n % 2 == 0 ? n : NONE);
        }
    }

    private static void everySignAtThreePlaces() {
        for (int sign = 33; sign <= 126; sign++) {
            String one = String.valueOf((char) sign);
            boolean letter = sign >= 'a' && sign <= 'l';
            boolean between = sign == '+' || sign == '|';
            is(one, faultOf(one), letter ? NONE : 0);
            is("a" + one, faultOf("a" + one), between ? 2 : 1);
            is("l+" + one, faultOf("l+" + one), letter ? NONE : 2);
            is("l|" + one, faultOf("l|" + one), letter ? NONE : 2);
        }
    }

    private static void wrongSignAtEachPlace() {
        for (int place = 0; place < 40; place++) {
            String right = signs(40);
            String wrong = right.substring(0, place) + (place % 2 == 0 ? '+' : 'a');
            is("wrong at the end, " + place, faultOf(wrong), place);
            is("right ones behind it", faultOf(wrong + right.substring(place + 1)), place);
            is("wrong ones behind it", faultOf(wrong + "!".repeat(39 - place)), place);
        }
    }

    private static void lettersOfTexts() {
        is("`", faultOf("`"), 0);
        is("a", faultOf("a"), NONE);
        is("l", faultOf("l"), NONE);
        is("m", faultOf("m"), 0);
        is("A", faultOf("A"), 0);
        is("L", faultOf("L"), 0);
        is("all of them", faultOf("a+b+c+d+e+f|g+h+i+j+k+l"), NONE);
        is("one again and again", faultOf("a+a|a+a"), NONE);
    }

    private static void faultOnlyLooks() {
        edges.unchanged("fault of none", Stories::none, FallWith::fault);
        edges.unchanged("fault", Stories::some, FallWith::fault);
        edges.unchanged("fault NONE", Stories::ready, FallWith::fault);
        edges.unchanged("fault of forty", Stories::full, FallWith::fault);
        FallWith x = new FallWith();
        Stories.say(x, "am");
        is("wrong", x.fault(), 1);
        is("wrong again", x.fault(), 1);
        x.wipe();
        is("wiped", x.fault(), 0);
    }

    // ---- promise 8

    private static void leans() {
        edges.test(8, "UNKNOWN; NO: there is a FAULT.", EdgesOfActsTest::actOfLeans);
        edges.test(8, "UNKNOWN; NO: there is a FAULT.", EdgesOfActsTest::faultOfLeans);
        edges.test(8, FIRST_THAT_FITS, EdgesOfActsTest::firstRefusalOfLeans);
        edges.test(8, "The signs are the text of an ACT (they are gone then): ALLS.", EdgesOfActsTest::signsAreGone);
        edges.test(8, "The signs are the text of an ACT (they are gone then): ALLS.", EdgesOfActsTest::textIsReplaced);
        edges.test(8, "ALLS with a | between two", EdgesOfActsTest::fromOneToTwentyAlls);
        edges.test(8, "an ALL: letters a to l (ACTS 0 to 11, itself too, those that there are not yet as well) with a + between two",
                EdgesOfActsTest::lettersOfAlls);
        edges.test(8, "By some ACTS it is HELD UP, if it has no text, or all of one of its ALLS are among them.", EdgesOfActsTest::heldUp);
        edges.test(8, CHANGE_NOTHING, EdgesOfActsTest::refusedLeansKeepsText);
    }

    private static void refusedLeans(Stories.Story story, int act, int want) {
        edges.refused("leans(" + act + ")", story, x -> x.leans(act), want);
    }

    private static void actOfLeans() {
        for (int act : Edges.noActs(5)) {
            refusedLeans(Stories::ready, act, UNKNOWN);
        }
        for (int act : Edges.noActs(11)) {
            refusedLeans(Stories::almost, act, UNKNOWN);
        }
        FallWith x = Stories.withActs(12);
        x.say('a');
        is("the first act", x.leans(0), 1);
        x.say('a');
        is("the last act", x.leans(11), 1);
    }

    private static void faultOfLeans() {
        refusedLeans(Stories::some, 0, NO);
        refusedLeans(Stories::full, 11, NO);
        String[] wrong = {"", "+", "|", "m", "a+", "a|", "aa", "a+|b", "a||b", "|a", "+a", "a+m", "A", "a b"};
        for (String signs : wrong) {
            refusedLeans(x -> {
                x.act(0, 0, 1, 0);
                Stories.lean(x, 0, "a|l");
                x.wipe();
                Stories.say(x, signs.replace(' ', '!'));
            }, 0, NO);
        }
    }

    private static void firstRefusalOfLeans() {
        for (int act : Edges.noActs(5)) {
            refusedLeans(Stories::some, act, UNKNOWN);
        }
        for (int act : Edges.noActs(12)) {
            refusedLeans(Stories::full, act, UNKNOWN);
        }
        refusedLeans(Stories::none, 0, UNKNOWN);
    }

    private static void signsAreGone() {
        FallWith x = Stories.withActs(2);
        Stories.say(x, "a|b");
        is("leans", x.leans(0), 2);
        is("told", x.told(2), 0);
        is("fault of none", x.fault(), 0);
        is("leans with none", x.leans(1), NO);
        is("wipe of none", x.wipe(), 0);
        is("the text is left", x.told(10), 2);
        is("the first sign", x.say('l'), 1);
    }

    /** Of a text that an act had, nothing is left when it gets another one, longer or shorter. */
    private static void textIsReplaced() {
        FallWith x = Stories.withActs(4);
        x.set(3, 0, 1);
        Stories.lean(x, 0, "d|d|d|d");
        is("leans on one that is NOUGHT", x.why(0, 0), 4);
        Stories.lean(x, 0, "d|b");
        is("the second ALL is a new one", x.why(0, 0), 0);
        Stories.lean(x, 0, "b");
        is("one ALL", x.told(10), 1);
        is("its names", x.under(0), 2);
        Stories.lean(x, 0, "d|d+b|c|d");
        is("the third ALL", x.why(0, 0), 0);
        is("its names", x.under(0), 14);
        x.free(0);
        Stories.lean(x, 0, "d|d|b");
        is("behind a time without a text", x.why(0, 0), 0);
    }

    private static void fromOneToTwentyAlls() {
        for (int n = 1; n <= 20; n++) {
            FallWith x = Stories.withActs(12);
            Stories.say(x, "a|".repeat(n).substring(0, 2 * n - 1));
            is("leans by " + n, x.leans(11), n);
            is("told", x.told(21), n);
            is("free", x.free(11), n);
        }
        FallWith y = Stories.withActs(12);
        for (int act = 0; act < 12; act++) {
            Stories.say(y, "a|".repeat(19) + "a");
            is("twenty of each", y.leans(act), 20);
        }
        for (int act = 0; act < 12; act++) {
            is("told", y.told(10 + act), 20);
        }
    }

    private static void lettersOfAlls() {
        for (int named = 0; named < 12; named++) {
            FallWith x = Stories.withActs(12);
            x.say('a' + named);
            is("leans", x.leans(5), 1);
            is("under", x.under(5), 1 << named);
            x.set(named, 0, 1);
            is("falls with it", x.all(0, 1), 4095 & ~(1 << named) & ~(1 << 5));
        }
        FallWith y = Stories.withActs(1);
        Stories.lean(y, 0, "l");
        for (int k = 1; k < 12; k++) {
            is("not held up yet", y.why(0, 99), 4);
            is("not under it yet", y.under(0), 0);
            y.act(99, 0, 1, 0);
        }
        is("held up by the twelfth", y.why(0, 99), 0);
        is("not ahead of its day", y.why(0, 98), 4);
        is("under it", y.under(0), 2048);
    }

    private static void heldUp() {
        FallWith x = Stories.withActs(12);
        Stories.lean(x, 11, "a+b+c+d+e+f+g+h+i+j+k+a+b+c+d+e+f+g+h+i");
        is("by all of one ALL", x.why(11, 0), 0);
        for (int act = 0; act < 11; act++) {
            x.set(act, 0, 1);
            is("one of it is not there", x.why(11, 0), 4);
            x.set(act, 0, 0);
        }
        Stories.lean(x, 11, "a|b|c|d|e|f|g|h|i|j|k|a|b|c|d|e|f|g|h|i");
        for (int act = 0; act < 11; act++) {
            is("one of the ALLS is left", x.why(11, 0), 0);
            x.set(act, 0, 1);
        }
        is("none of the ALLS is left", x.why(11, 0), 4);
        x.set(10, 0, 0);
        is("the eleventh of twenty ALLS", x.why(11, 0), 0);
        x.free(11);
        x.set(10, 0, 1);
        is("no text", x.why(11, 0), 0);
        FallWith y = Stories.withActs(3);
        Stories.lean(y, 2, "l|".repeat(19) + "b");
        is("the last of twenty ALLS", y.why(2, 0), 0);
        y.set(1, 0, 1);
        is("not even that", y.why(2, 0), 4);
        Stories.lean(y, 2, "a|" + "l|".repeat(18) + "l");
        is("the first of twenty ALLS", y.why(2, 0), 0);
        Stories.lean(y, 2, "a+b|a+l");
        is("parts of two ALLS are no ALL", y.why(2, 0), 4);
    }

    private static void refusedLeansKeepsText() {
        FallWith x = Stories.withActs(2);
        Stories.lean(x, 0, "b|l|k");
        Stories.say(x, "a+");
        is("refused", x.leans(0), NO);
        is("the text", x.told(10), 3);
        is("its names", x.under(0), 2);
        is("the signs", x.told(2), 2);
        is("the sign that was missing", x.say('a'), 3);
        is("no such act", x.leans(2), UNKNOWN);
        is("the signs", x.told(2), 3);
        is("leans", x.leans(1), 1);
        is("its names", x.under(1), 3);
    }

    // ---- promise 9

    private static void free() {
        edges.test(9, "An ACT has no text any more: how many ALLS it had. UNKNOWN.", EdgesOfActsTest::actOfFree);
        edges.test(9, "An ACT has no text any more: how many ALLS it had. UNKNOWN.", EdgesOfActsTest::howManyItHad);
        edges.test(9, "By some ACTS it is HELD UP, if it has no text", EdgesOfActsTest::heldUpWithoutText);
    }

    private static void actOfFree() {
        for (int act : Edges.noActs(5)) {
            edges.refused("free(" + act + ")", Stories::some, x -> x.free(act), UNKNOWN);
        }
        for (int act : Edges.noActs(12)) {
            edges.refused("free(" + act + ")", Stories::full, x -> x.free(act), UNKNOWN);
        }
        edges.refused("free(0)", Stories::none, x -> x.free(0), UNKNOWN);
    }

    private static void howManyItHad() {
        FallWith x = Stories.withActs(12);
        Stories.lean(x, 0, "a");
        Stories.lean(x, 11, "a|".repeat(19) + "a");
        Stories.say(x, "b+");
        is("of no text", x.free(5), 0);
        is("of one", x.free(0), 1);
        is("of the first again", x.free(0), 0);
        is("the other one's text is left", x.told(21), 20);
        is("of twenty", x.free(11), 20);
        is("of the last again", x.free(11), 0);
        is("told", x.told(10), 0);
        is("told", x.told(21), 0);
        is("under", x.under(11), 0);
        is("the signs are left", x.told(2), 2);
        edges.unchanged("free of no text", Stories::some, y -> y.free(0));
    }

    private static void heldUpWithoutText() {
        FallWith x = Stories.withActs(1);
        Stories.lean(x, 0, "l");
        is("not held up", x.all(0, 1), 0);
        is("free", x.free(0), 1);
        is("of the most", x.all(0, 1), 1);
        is("of the least", x.all(0, 2), 1);
        Stories.lean(x, 0, "l");
        is("a text again", x.all(0, 1), 0);
    }
}
