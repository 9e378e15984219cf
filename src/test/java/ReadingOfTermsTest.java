import java.io.IOException;
import java.nio.file.Files;
import java.nio.file.Path;

/** The document from its first line up to promise 1, each sentence in its turn: what it is, the face, the terms, the constants. */
public final class ReadingOfTermsTest {
    private static final int UNKNOWN = -1, OUTSIDE = -2, FULL = -4, NO = -5, NONE = -6;
    private static final int LOST = -1000000000;
    private static Reading reading;
    private static String source;

    public static void main(String[] args) throws IOException {
        source = Files.readString(Path.of(System.getProperty("fallwith.source", "src/main/java/FallWith.java")));
        reading = new Reading("# FallWith", "## Promise 1:");
        readWhatItIs();
        readFace();
        readRefusals();
        readTermsOfActs();
        readTermsOfAskings();
        readTermsOfFalls();
        readTermsOfHolds();
        readConstants();
        reading.close();
    }

    private static void is(String call, int got, int want) {
        reading.is(call, got, want);
    }

    /** The answers of a call for one number behind the other. */
    private interface Numbered {
        int on(int number);
    }

    private static void row(String call, Numbered answers, int first, int... want) {
        for (int k = 0; k < want.length; k++) {
            is(call + " with " + (first + k), answers.on(first + k), want[k]);
        }
    }

    // ---- what it is

    private static void readWhatItIs() {
        reading.passOver("# FallWith ## What it is");
        reading.says("What falls with it: acts that lean on acts, on all of some or on one of several such;", ReadingOfTermsTest::actsLean);
        reading.says("faults by which one never was, or stands till it is asked for, by whom, in time;", ReadingOfTermsTest::faultsOfActs);
        reading.says("good faith that may hold what leans;", ReadingOfTermsTest::goodFaith);
        reading.says("what heals;", ReadingOfTermsTest::whatHeals);
        reading.says("what stands on a day, and why not;", ReadingOfTermsTest::whyNot);
        reading.says("the most and the least that can stand where acts lean on one another round;", ReadingOfTermsTest::round);
        reading.says("an asking, what falls by it step by step, what goes back to whom with fruits;", ReadingOfTermsTest::anAsking);
        reading.says("who would ask, where nobody asks more;", ReadingOfTermsTest::whoWouldAsk);
        reading.says("the fewest acts to heal so that told ones stand, the one that holds up most;", ReadingOfTermsTest::fewestAndMost);
        reading.says("what hangs on what each knew;", ReadingOfTermsTest::whatHangs);
        reading.says("the day from which one is safe;", ReadingOfTermsTest::safeFrom);
        reading.says("the same acts by the other law.", ReadingOfTermsTest::otherLaw);
        reading.says("An object is used for at most 512 calls after it has been made; what later calls answer is free.",
                ReadingOfTermsTest::eachKindAsTheLastCall);
    }

    private static void actsLean() {
        FallWith x = Stories.withActs(4);
        Stories.lean(x, 2, "a+b");
        Stories.lean(x, 3, "a|b");
        is("all stand", x.all(0, 1), 15);
        x.set(0, 0, 1);
        is("without a", x.all(0, 1), 2 + 8);
    }

    private static void faultsOfActs() {
        FallWith x = new FallWith();
        x.act(10, 0, 1, 50);
        x.set(0, 0, 1);
        is("never was", x.why(0, 10), 2);
        x.set(0, 0, 2);
        is("nobody asked", x.why(0, 99), 0);
        x.ask(0, 1, 20);
        is("asked for by another one", x.why(0, 99), 0);
        x.ask(0, 0, 20);
        is("stands till it is asked for", x.why(0, 19), 0);
        is("asked for", x.why(0, 20), 3);
        x.set(0, 1, 10);
        is("just in time", x.why(0, 20), 3);
        x.set(0, 1, 9);
        is("too late", x.why(0, 20), 0);
    }

    /** b leans on a, that is NOUGHT, and is GOOD. */
    private static FallWith goodOne() {
        FallWith x = Stories.chain(2);
        x.set(0, 0, 1);
        x.set(1, 3, 1);
        return x;
    }

    private static void goodFaith() {
        FallWith x = goodOne();
        is("LAW 0", x.why(1, 0), 4);
        x.law(0, 1);
        is("LAW 1", x.why(1, 0), 0);
    }

    private static void whatHeals() {
        FallWith x = Stories.chain(2);
        x.set(0, 0, 1);
        x.set(0, 2, 30);
        is("the day ahead", x.all(29, 1), 0);
        is("that day", x.all(30, 1), 3);
    }

    private static void whyNot() {
        FallWith x = new FallWith();
        int[] days = {10, 11, 10, 10, 10};
        for (int day : days) {
            x.act(day, 0, 1, 10);
        }
        x.set(2, 0, 1);
        x.set(3, 0, 4);
        x.ask(3, 2, 10);
        Stories.lean(x, 4, "c");
        row("why", act -> x.why(act, 10), 0, 0, 1, 2, 3, 4);
        is("what stands", x.all(10, 1), 1);
    }

    private static void round() {
        FallWith x = Stories.chain(3);
        Stories.lean(x, 0, "c");
        is("the most", x.all(0, 1), 7);
        is("the least", x.all(0, 2), 0);
    }

    /** A sale and a sale of the same thing that leans on it; anybody may ask for the first one. */
    private static FallWith sales() {
        FallWith x = new FallWith();
        x.act(10, 0, 1, 50);
        x.act(20, 1, 2, 60);
        Stories.lean(x, 1, "a");
        x.set(0, 0, 4);
        return x;
    }

    private static void anAsking() {
        FallWith x = sales();
        row("fall", i -> x.fall(0, 3, 40, i), -3, NONE, 3, 2, 1, 2, NONE);
        row("back", whom -> x.back(0, 3, 40, whom), 0, 65, 72 - 65, -72, 0);
    }

    private static void whoWouldAsk() {
        FallWith x = sales();
        is("wise", x.wise(0, 40), 0);
        row("rest", what -> x.rest(40, what), 0, 1, 0);
    }

    private static void fewestAndMost() {
        FallWith x = Stories.withActs(4);
        Stories.lean(x, 2, "a+b");
        Stories.lean(x, 3, "b");
        row("pillar", what -> x.pillar(0, what), 0, 1, 2);
        x.set(0, 0, 1);
        x.set(1, 0, 1);
        row("heal for c", what -> x.heal(4, 0, what), 0, 3, 2);
        row("heal for d", what -> x.heal(8, 0, what), 0, 2, 1);
    }

    private static void whatHangs() {
        FallWith x = goodOne();
        x.law(0, 1);
        is("b is known to be GOOD", x.hangs(1, 0, 1), 2);
        is("that is not known", x.hangs(1, 0, 2), 1);
        is("a never was", x.hangs(0, 0, 3), 0);
    }

    private static void safeFrom() {
        FallWith x = sales();
        x.set(0, 1, 20);
        row("safe", x::safe, 0, 31, 31);
    }

    private static void otherLaw() {
        FallWith x = goodOne();
        is("by LAW 0", x.beside(0), 2);
        x.law(0, 1);
        is("by LAW 1", x.beside(0), 2);
    }

    private static void eachKindAsTheLastCall() {
        last("act", x -> x.act(30, 2, 3, 70), 2);
        last("set", x -> x.set(0, 0, 2), 4);
        last("law", x -> x.law(1, 9), 1);
        last("say", x -> x.say('+'), 2);
        last("wipe", FallWith::wipe, 1);
        last("fault", FallWith::fault, NONE);
        last("leans", x -> x.leans(0), 1);
        last("free", x -> x.free(1), 1);
        last("ask", x -> x.ask(1, 0, 50), 1);
        last("counts", x -> x.counts(0), 1);
        last("drop", FallWith::drop, 0);
        last("all", x -> x.all(39, 1), 3);
        last("why", x -> x.why(1, 40), 4);
        last("under", x -> x.under(1), 1);
        last("fall", x -> x.fall(0, 2, 39, -2), 3);
        last("back", x -> x.back(0, 2, 39, 0), 64);
        last("wise", x -> x.wise(0, 39), 0);
        last("rest", x -> x.rest(39, 0), 1);
        last("heal", x -> x.heal(2, 40, 0), 1);
        last("pillar", x -> x.pillar(39, 0), 0);
        last("hangs", x -> x.hangs(1, 40, 2), 0);
        last("safe", x -> x.safe(1), NONE);
        last("beside", x -> x.beside(40), 0);
        last("told", x -> x.told(2), 1);
    }

    /** The answer of the 512th call, behind a short story and a long time of asking how many acts there are. */
    private static void last(String name, Twins.Call call, int want) {
        FallWith x = new FallWith();
        int[] told = {x.act(10, 0, 1, 50), x.act(20, 1, 2, 60), x.say('a'), x.leans(1), x.set(0, 0, 4), x.ask(0, 3, 40), x.say('a')};
        for (int made = told.length; made < 511; made++) {
            is("call " + (made + 1), x.told(0), 2);
        }
        is(name + " as the 512th call", call.on(x), want);
    }

    // ---- the face

    private static void readFace() {
        reading.passOver("## The public face ```java");
        // FaceTest holds the class against the document's own lines.
        reading.holds("the face is there", reading.takeTill("```").contains("public final class FallWith {"));
        reading.passOver("```");
    }

    // ---- terms: refusals

    private static void readRefusals() {
        reading.passOver("## Terms");
        reading.says("Calls that are refused answer, the first of these that fits: UNKNOWN -1 (there is no such ACT, ASKING, WHO),"
                + " OUTSIDE -2 (another number is not as told), STATE -3 (as told), FULL -4, NO -5 (as told).", ReadingOfTermsTest::theFirstThatFits);
        reading.says("They change nothing.", ReadingOfTermsTest::refusedChangesNothing);
        reading.says("Quotients are cut.", ReadingOfTermsTest::cut);
        reading.says("DAYS are 0 to 99;", ReadingOfTermsTest::daysOfEachCall);
        reading.says("WHO are 0 to 3.", ReadingOfTermsTest::whosOfEachCall);
    }

    /** STATE is not tried: no promise tells of it. */
    private static void theFirstThatFits() {
        FallWith x = Stories.after(Stories::full);
        is("act: UNKNOWN, OUTSIDE, FULL", x.act(100, 4, 4, 100), UNKNOWN);
        is("act: OUTSIDE, FULL", x.act(100, 0, 1, 100), OUTSIDE);
        is("act: FULL", x.act(99, 0, 1, 99), FULL);
        is("set: UNKNOWN, OUTSIDE", x.set(12, 4, -2), UNKNOWN);
        is("say: OUTSIDE, FULL", x.say(32), OUTSIDE);
        is("leans: UNKNOWN, NO", x.leans(12), UNKNOWN);
        is("leans: NO", x.leans(11), NO);
        is("ask: UNKNOWN, OUTSIDE, FULL", x.ask(0, 4, 100), UNKNOWN);
        is("ask: OUTSIDE, FULL", x.ask(0, 3, 100), OUTSIDE);
        is("ask: FULL", x.ask(0, 3, 99), FULL);
        is("why: UNKNOWN, OUTSIDE", x.why(12, 100), UNKNOWN);
        is("fall: UNKNOWN, OUTSIDE, NO", x.fall(0, 4, 100, 0), UNKNOWN);
        is("fall: OUTSIDE, NO", x.fall(0, 3, 100, 0), OUTSIDE);
        is("fall: NO", x.fall(0, 3, 99, 0), NO);
        is("back: UNKNOWN, OUTSIDE, NO", x.back(0, 3, 100, 4), LOST + UNKNOWN);
        is("back: OUTSIDE, NO", x.back(0, 3, 100, 3), LOST + OUTSIDE);
        is("back: NO", x.back(0, 3, 99, 3), LOST + NO);
        is("wise: UNKNOWN, OUTSIDE", x.wise(12, 100), UNKNOWN);
        is("heal: OUTSIDE, NO", x.heal(2048, 32, 2), OUTSIDE);
        is("heal: NO", x.heal(2048, 32, 1), NO);
        is("hangs: UNKNOWN, OUTSIDE", x.hangs(12, 100, 4096), UNKNOWN);
    }

    private static void refusedChangesNothing() {
        Twins.Call[] refused = {
            x -> x.act(100, 0, 1, 0), x -> x.set(0, 0, 5), x -> x.law(1, 10), x -> x.say(127), x -> x.leans(0), x -> x.free(5),
            x -> x.ask(0, 0, 100), x -> x.counts(3), x -> x.all(0, 3), x -> x.why(0, 100), x -> x.under(5), x -> x.fall(2, 0, 50, 0),
            x -> x.back(2, 0, 50, 0), x -> x.wise(0, 100), x -> x.rest(50, 2), x -> x.heal(16, 98, 0), x -> x.pillar(50, 2),
            x -> x.hangs(0, 50, 32), x -> x.safe(5), x -> x.beside(-1), x -> x.told(5)};
        for (int k = 0; k < refused.length; k++) {
            reading.holds("call " + k + " is refused", refused[k].on(Stories.after(Stories::some)) < 0);
            reading.holds("call " + k + " changes nothing", Twins.alike(Stories::some, refused[k]));
        }
        is("drop is refused", new FallWith().drop(), NO);
        reading.holds("drop changes nothing", Twins.alike(Stories::none, FallWith::drop));
    }

    private static void cut() {
        FallWith x = new FallWith();
        x.act(0, 0, 1, 99);
        x.set(0, 0, 4);
        is("99 by 100", x.back(0, 0, 1, 0), 99);
        is("99 by 100, of the TAKER", x.back(0, 0, 1, 1), -99);
        is("198 by 100", x.back(0, 0, 2, 0), 100);
        is("198 by 100, of the TAKER", x.back(0, 0, 2, 1), -100);
    }

    private static void daysOfEachCall() {
        FallWith x = Stories.withActs(1);
        x.set(0, 0, 4);
        int[] ends = {-1, 0, 99, 100};
        for (int day : ends) {
            boolean fits = day >= 0 && day <= 99;
            String on = " on " + day;
            is("act" + on, new FallWith().act(day, 0, 1, 0), fits ? 0 : OUTSIDE);
            is("ask" + on, Stories.withActs(1).ask(0, 0, day), fits ? 0 : OUTSIDE);
            row("all" + on, how -> x.all(day, how), 0, fits ? 1 : OUTSIDE, fits ? 1 : OUTSIDE, fits ? 1 : OUTSIDE);
            is("why" + on, x.why(0, day), fits ? 0 : OUTSIDE);
            is("fall" + on, x.fall(0, 0, day, -2), fits ? 1 : OUTSIDE);
            is("back" + on, x.back(0, 0, day, 2), fits ? 0 : LOST + OUTSIDE);
            is("wise" + on, x.wise(0, day), fits ? 0 : OUTSIDE);
            row("rest" + on, what -> x.rest(day, what), 0, fits ? 1 : OUTSIDE, fits ? 0 : OUTSIDE);
            row("heal" + on, what -> x.heal(1, day, what), 0, fits ? 0 : OUTSIDE, fits ? 0 : OUTSIDE);
            row("pillar" + on, what -> x.pillar(day, what), 0, fits ? 0 : OUTSIDE, fits ? 0 : OUTSIDE);
            is("hangs" + on, x.hangs(0, day, 1), fits ? 2 : OUTSIDE);
            is("beside" + on, x.beside(day), fits ? 0 : OUTSIDE);
        }
        row("set HEALED", v -> Stories.withActs(1).set(0, 2, v), -2, OUTSIDE, NONE, NONE);
        row("set HEALED", v -> Stories.withActs(1).set(0, 2, v), 99, NONE, OUTSIDE);
    }

    private static void whosOfEachCall() {
        FallWith x = Stories.withActs(1);
        x.set(0, 0, 4);
        row("act, GIVER", who -> new FallWith().act(0, who, who == 3 ? 0 : 3, 0), -1, UNKNOWN, 0, 0, 0, 0, UNKNOWN);
        row("act, TAKER", who -> new FallWith().act(0, who == 3 ? 0 : 3, who, 0), -1, UNKNOWN, 0, 0, 0, 0, UNKNOWN);
        row("ask", who -> Stories.withActs(1).ask(0, who, 0), -1, UNKNOWN, 0, 0, 0, 0, UNKNOWN);
        row("fall", who -> x.fall(0, who, 0, -2), -1, UNKNOWN, 1, 1, 1, 1, UNKNOWN);
        row("back, WHO", who -> x.back(0, who, 0, 0), -1, LOST + UNKNOWN, 10, 10, 10, 10, LOST + UNKNOWN);
        row("back, WHOM", whom -> x.back(0, 3, 0, whom), -1, LOST + UNKNOWN, 10, -10, 0, 0, LOST + UNKNOWN);
    }

    // ---- terms: 1 acts

    private static void readTermsOfActs() {
        reading.says("======== 1 ACTS, 12 at most, numbered from 0 on: done on a DAY, by a GIVER to a TAKER (unlike WHO), of a WORTH (0 to 99).",
                ReadingOfTermsTest::acts);
        reading.says("An ACT LEANS by a text of up to 40 signs (codes 33 to 126; none at first): ALLS with a | between two; an ALL: letters a to"
                + " l (ACTS 0 to 11, itself too, those that there are not yet as well) with a + between two.", ReadingOfTermsTest::texts);
        reading.says("THE FAULT of a text: the place (from 0 on) of the first sign that can not stand there; the number of signs, if more"
                + " must come.", ReadingOfTermsTest::faultsOfTexts);
        reading.says("By some ACTS it is HELD UP, if it has no text, or all of one of its ALLS are among them.", ReadingOfTermsTest::heldUp);
        reading.says("```text A FLAW of an ACT: 0 none (at first); 1 NOUGHT; 2 its GIVER, 3 its TAKER, 4 anybody may ask for it.",
                ReadingOfTermsTest::flaws);
        reading.says("YEARS: how many DAYS behind its own one may ask (0 to 99; 99 at first).", ReadingOfTermsTest::years);
        reading.says("HEALED: from a DAY on, or not (at first).", ReadingOfTermsTest::healed);
        reading.says("GOOD: its TAKER knew of nothing (1), or not (0, at first).", ReadingOfTermsTest::good);
        reading.says("LAW 0 (at first): GOOD does not matter; LAW 1: a GOOD ACT needs not to be HELD UP. ```", ReadingOfTermsTest::laws);
    }

    private static void acts() {
        FallWith x = new FallWith();
        row("act", k -> x.act(k, k % 4, (k + 3) % 4, 8 * k), 0, 0, 1, 2, 3, 4, 5, 6, 7, 8, 9, 10, 11, FULL);
        for (int k = 0; k < 12; k++) {
            x.set(k, 0, 4);
            is("ahead of the DAY of act " + k, x.fall(k, 0, k == 0 ? 0 : k - 1, -2), k == 0 ? 1 : NO);
            is("GIVER and WORTH of act " + k, x.back(k, 0, k, k % 4), 8 * k);
            is("TAKER and WORTH of act " + k, x.back(k, 0, k, (k + 3) % 4), -8 * k);
        }
        row("both are one", who -> new FallWith().act(0, who, who, 0), 0, UNKNOWN, UNKNOWN, UNKNOWN, UNKNOWN);
        row("WORTH", worth -> new FallWith().act(0, 0, 1, worth), -1, OUTSIDE, 0);
        row("WORTH", worth -> new FallWith().act(0, 0, 1, worth), 99, 0, OUTSIDE);
    }

    private static int faultOf(String signs) {
        FallWith x = new FallWith();
        Stories.say(x, signs);
        return x.fault();
    }

    private static void texts() {
        FallWith x = Stories.withActs(2);
        row("ALLS at first", x::told, 10, 0, 0);
        row("code", sign -> new FallWith().say(sign), 32, OUTSIDE, 1);
        row("code", sign -> new FallWith().say(sign), 126, 1, OUTSIDE);
        Stories.say(x, "b+a|b|l+a");
        is("itself too, and one that there is not yet", x.leans(1), 3);
        is("itself holds it up", x.why(1, 0), 0);
        Stories.say(x, "a+b|".repeat(9) + "a+b");
        is("39 signs", x.leans(0), 10);
        Stories.say(x, "a+b|".repeat(10));
        is("40 signs", x.told(2), 40);
        is("41 signs", x.say('a'), FULL);
        row("the letter", sign -> faultOf(String.valueOf((char) sign)), 'a' - 1, 0, NONE);
        row("the letter", sign -> faultOf(String.valueOf((char) sign)), 'l', NONE, 0);
    }

    private static void faultsOfTexts() {
        String[] signs = {"", "+", "a", "a+", "a|", "ab", "a+b", "a+|", "a|m", "a+b|c", "a+b|c+", "a+b|c!d", "A"};
        int[] due = {0, 0, NONE, 2, 2, 1, NONE, 2, 2, NONE, 6, 5, 0};
        for (int k = 0; k < signs.length; k++) {
            is(signs[k], faultOf(signs[k]), due[k]);
        }
    }

    private static void heldUp() {
        for (int there = 0; there < 8; there++) {
            FallWith x = Stories.withActs(4);
            Stories.lean(x, 3, "a+b|c");
            for (int act = 0; act < 3; act++) {
                x.set(act, 0, (there >> act & 1) == 1 ? 0 : 1);
            }
            boolean held = (there & 3) == 3 || (there & 4) == 4;
            is("by " + there, x.why(3, 0), held ? 0 : 4);
            x.free(3);
            is("without a text", x.why(3, 0), 0);
        }
    }

    /** One act of DAY 40 from WHO 1 to WHO 2. */
    private static FallWith one(int flaw) {
        FallWith x = new FallWith();
        x.act(40, 1, 2, 10);
        x.set(0, 0, flaw);
        return x;
    }

    private static int countsFor(FallWith x, int who, int day) {
        x.ask(0, who, day);
        int counts = x.counts(x.told(1) - 1);
        x.drop();
        return counts;
    }

    private static void flaws() {
        is("none at first", Stories.withActs(1).set(0, 0, 0), 0);
        row("why", flaw -> one(flaw).why(0, 40), 0, 0, 2, 0, 0, 0);
        row("the GIVER asks", flaw -> countsFor(one(flaw), 1, 40), 0, 0, 0, 1, 0, 1);
        row("the TAKER asks", flaw -> countsFor(one(flaw), 2, 40), 0, 0, 0, 0, 1, 1);
        row("another one asks", flaw -> countsFor(one(flaw), 3, 40), 0, 0, 0, 0, 0, 1);
    }

    private static void years() {
        FallWith x = one(4);
        is("on DAY 99 at first", countsFor(x, 0, 99), 1);
        is("at first", x.set(0, 1, 0), 99);
        is("on its own DAY", countsFor(x, 0, 40), 1);
        is("on the next one", countsFor(x, 0, 41), 0);
        x.set(0, 1, 7);
        is("7 DAYS behind", countsFor(x, 0, 47), 1);
        is("8 DAYS behind", countsFor(x, 0, 48), 0);
        row("YEARS", v -> one(4).set(0, 1, v), -1, OUTSIDE, 99);
        row("YEARS", v -> one(4).set(0, 1, v), 99, 99, OUTSIDE);
    }

    private static void healed() {
        FallWith x = one(1);
        is("not at first", x.why(0, 99), 2);
        is("not at first", x.set(0, 2, 70), NONE);
        row("why", day -> x.why(0, day), 69, 2, 0, 0);
        is("on the last day", x.why(0, 99), 0);
    }

    private static void good() {
        FallWith x = Stories.withActs(1);
        is("at first", x.set(0, 3, 1), 0);
        is("then", x.set(0, 3, 0), 1);
    }

    private static void laws() {
        FallWith x = goodOne();
        is("at first", x.told(3), 0);
        is("LAW 0, GOOD", x.all(0, 1), 0);
        x.law(0, 1);
        is("LAW 1, GOOD", x.all(0, 1), 2);
        x.set(1, 3, 0);
        is("LAW 1, not GOOD", x.all(0, 1), 0);
        x.set(0, 3, 1);
        is("GOOD is no help against NOUGHT", x.all(0, 1), 0);
    }

    // ---- terms: 2 askings

    private static void readTermsOfAskings() {
        reading.says("======== 2 ASKINGS, 12 at most, numbered from 0 on: for an ACT, by WHO, on a DAY.", ReadingOfTermsTest::askings);
        reading.says("One COUNTS, if the ACT's FLAW lets that WHO ask, the DAY is not ahead of the ACT's and no more than YEARS behind it, and"
                + " the ACT is not HEALED by then.", ReadingOfTermsTest::counting);
        reading.says("On a DAY an ACT is SOUND, if it was done by then, and: it is not NOUGHT, or HEALED by then; and no ASKING for it of that"
                + " DAY or an earlier one COUNTS.", ReadingOfTermsTest::sound);
        reading.says("```text THE MOST: the greatest set of SOUND ACTS such that each is HELD UP by the set (or needs not to be).",
                ReadingOfTermsTest::theMost);
        reading.says("THE LEAST: what comes, if from nothing on again and again all SOUND ACTS come that are HELD UP by those that came"
                + " (or need not to be).", ReadingOfTermsTest::theLeast);
        reading.says("An ACT STANDS, if it is of THE MOST.", ReadingOfTermsTest::standsByTheMost);
        reading.says("WHY: 0 it stands; 1 it was not done by then; 2 NOUGHT, not HEALED; 3 an ASKING COUNTS; 4 it is not HELD UP.",
                ReadingOfTermsTest::whyOfOne);
        reading.says("UNDER an ACT: all that its text names, and what these lean on, and so on (ACTS that there are). ```",
                ReadingOfTermsTest::under);
    }

    private static void askings() {
        FallWith x = one(4);
        row("ask", k -> x.ask(0, k % 4, 34 + k), 0, 0, 1, 2, 3, 4, 5, 6, 7, 8, 9, 10, 11, FULL);
        row("counts", x::counts, 0, 0, 0, 0, 0, 0, 0, 1, 1, 1, 1, 1, 1, UNKNOWN);
    }

    /** Each condition broken alone. */
    private static void counting() {
        FallWith x = one(2);
        x.set(0, 1, 10);
        x.set(0, 2, 51);
        row("by WHO", who -> countsFor(x, who, 45), 0, 0, 1, 0, 0);
        row("on DAY", day -> countsFor(x, 1, day), 39, 0, 1);
        row("on DAY", day -> countsFor(x, 1, day), 49, 1, 1, 0);
        x.set(0, 1, 99);
        row("on DAY, HEALED from 51 on", day -> countsFor(x, 1, day), 49, 1, 1, 0);
        x.set(0, 2, -1);
        row("on DAY, not HEALED", day -> countsFor(x, 1, day), 49, 1, 1, 1);
    }

    private static void sound() {
        FallWith x = one(1);
        x.set(0, 2, 42);
        row("NOUGHT, HEALED from 42 on", day -> x.all(day, 0), 39, 0, 0, 0, 1, 1);
        x.set(0, 0, 4);
        x.ask(0, 0, 41);
        row("asked for on 41, HEALED behind that", day -> x.all(day, 0), 39, 0, 1, 0, 0, 0);
        x.set(0, 2, 41);
        row("asked for on 41, HEALED by then", day -> x.all(day, 0), 39, 0, 1, 1, 1, 1);
    }

    /** a and b lean on one another, c on itself and e, d on a or e, and e is NOUGHT. */
    private static FallWith rounds() {
        FallWith x = Stories.withActs(5);
        Stories.lean(x, 0, "b");
        Stories.lean(x, 1, "a");
        Stories.lean(x, 2, "c+e");
        Stories.lean(x, 3, "a|e");
        x.set(4, 0, 1);
        return x;
    }

    private static void theMost() {
        FallWith x = rounds();
        is("SOUND", x.all(0, 0), 15);
        is("THE MOST", x.all(0, 1), 1 + 2 + 8);
        x.set(2, 3, 1);
        is("c is GOOD, LAW 0", x.all(0, 1), 1 + 2 + 8);
        x.law(0, 1);
        is("c is GOOD, LAW 1", x.all(0, 1), 15);
        x.set(1, 0, 1);
        is("b is NOUGHT", x.all(0, 1), 4);
    }

    private static void theLeast() {
        FallWith x = rounds();
        is("THE LEAST", x.all(0, 2), 0);
        x.set(0, 3, 1);
        is("a is GOOD, LAW 0", x.all(0, 2), 0);
        x.law(0, 1);
        is("a is GOOD, LAW 1", x.all(0, 2), 1 + 2 + 8);
        x.law(0, 0);
        x.free(1);
        is("b leans on nothing", x.all(0, 2), 1 + 2 + 8);
    }

    /** Two acts that hold one another up are not of THE LEAST: whatever asks for what stands must take them as standing. */
    private static void standsByTheMost() {
        FallWith x = Stories.chain(2);
        Stories.lean(x, 0, "b");
        x.set(0, 0, 2);
        is("THE LEAST", x.all(0, 2), 0);
        row("why", act -> x.why(act, 0), 0, 0, 0);
        row("fall", i -> x.fall(0, 0, 0, i), -2, 3, 2, 1, 2, NONE);
        row("back", whom -> x.back(0, 0, 0, whom), 0, 20, -20, 0, 0);
        is("wise", x.wise(0, 0), 0);
        row("rest", what -> x.rest(0, what), 0, 1, 0);
        row("heal", what -> x.heal(3, 0, what), 0, 0, 0);
        row("pillar", what -> x.pillar(0, what), 0, 0, 1);
        row("hangs", act -> x.hangs(act, 0, 0), 0, 2, 2);
        is("beside", x.beside(0), 0);
        row("safe", x::safe, 0, NONE, NONE);
        x.set(0, 1, 5);
        row("safe", x::safe, 0, 6, 6);
    }

    private static void whyOfOne() {
        FallWith x = one(1);
        Stories.lean(x, 0, "l");
        x.set(0, 2, 42);
        row("why", day -> x.why(0, day), 39, 1, 2, 2, 4, 4);
        x.free(0);
        row("why", day -> x.why(0, day), 39, 1, 2, 2, 0, 0);
        x.set(0, 0, 3);
        x.ask(0, 2, 41);
        Stories.lean(x, 0, "l");
        row("why", day -> x.why(0, day), 39, 1, 4, 3, 3, 3);
    }

    private static void under() {
        FallWith x = Stories.withActs(5);
        Stories.lean(x, 0, "b+c|l");
        Stories.lean(x, 1, "d");
        Stories.lean(x, 3, "b|d");
        row("under", x::under, 0, 2 + 4 + 8, 2 + 8, 0, 2 + 8, 0, UNKNOWN);
        x.set(1, 0, 1);
        is("what does not stand is under it still", x.under(0), 2 + 4 + 8);
    }

    // ---- terms: 3 falls

    private static void readTermsOfFalls() {
        reading.says("======== 3 FALL of one ASKING more, that would COUNT: on its DAY those that stand without it, and not with it.",
                ReadingOfTermsTest::fallOfOneMore);
        reading.says("STEPS: first the ACT itself (if it stood), then again and again all that are not HELD UP any more by what is left.",
                ReadingOfTermsTest::steps);
        reading.says("BACK: of each that falls its WORTH, and FRUITS: WORTH times RATE (0 to 9; 1 at first) times DAYS since it was done, by"
                + " 100, go from its TAKER to its GIVER: what a WHO has more by all of it (perhaps below 0).", ReadingOfTermsTest::back);
        reading.says("```text WISE: the first WHO by whom an ASKING for an ACT on a DAY would COUNT, and who has more by it.",
                ReadingOfTermsTest::wise);
        reading.says("REST of a DAY: again and again the first ACT for which somebody is WISE is ASKED for by them on that DAY, beside all"
                + " ASKINGS that were told, till there is none. ```", ReadingOfTermsTest::rest);
    }

    /** What is only thought of is the same as what is told then. */
    private static void fallOfOneMore() {
        FallWith x = Stories.after(Stories::some);
        int[] falls = {1 + 2 + 4, 2, NO, 8, NO};
        int[] askers = {3, 1, 0, 0, 0};
        for (int act = 0; act < 5; act++) {
            int before = x.all(45, 1);
            is("all of " + act, x.fall(act, askers[act], 45, -2), falls[act]);
            x.ask(act, askers[act], 45);
            is("told, " + act, before & ~x.all(45, 1), Math.max(falls[act], 0));
            x.drop();
        }
    }

    /** b and c lean on a, d on both of them, e on one of them, f on d or a. */
    private static void steps() {
        FallWith x = Stories.withActs(6);
        String[] texts = {"a", "a", "b+c", "b|c", "d|a"};
        for (int k = 0; k < texts.length; k++) {
            Stories.lean(x, k + 1, texts[k]);
        }
        x.set(0, 0, 4);
        x.set(1, 0, 4);
        row("from a on", i -> x.fall(0, 0, 0, i), -2, 63, 4, 1, 2 + 4, 8 + 16, 32, NONE);
        row("from b on", i -> x.fall(1, 0, 0, i), -2, 2 + 8, 2, 2, 8, NONE);
        x.ask(0, 0, 0);
        row("b did not stand", i -> x.fall(1, 0, 0, i), -2, 0, 0, NONE);
    }

    /** 258 from 1 to 0 for the first one, 85 from 0 to 1 for the second. */
    private static void back() {
        FallWith x = new FallWith();
        x.act(10, 0, 1, 99);
        x.act(20, 1, 0, 45);
        Stories.lean(x, 1, "a");
        x.set(0, 0, 4);
        row("RATE 1 at first", whom -> x.back(0, 2, 33, whom), 0, 99 + 22 - 45 - 5, 45 + 5 - 99 - 22, 0, 0);
        x.law(1, 7);
        row("RATE 7", whom -> x.back(0, 2, 33, whom), 0, 258 - 85, 85 - 258, 0, 0);
        x.law(1, 0);
        row("RATE 0", whom -> x.back(0, 2, 33, whom), 0, 99 - 45, 45 - 99, 0, 0);
        row("RATE", v -> new FallWith().law(1, v), -1, OUTSIDE, 1);
        row("RATE", v -> new FallWith().law(1, v), 9, 1, OUTSIDE);
    }

    /** 10 from 1 to 3 for a, 30 from 3 to 2 for b, that leans on a. */
    private static FallWith threeWho() {
        FallWith x = new FallWith();
        x.act(0, 3, 1, 10);
        x.act(0, 2, 3, 30);
        Stories.lean(x, 1, "a");
        return x;
    }

    private static void wise() {
        FallWith x = threeWho();
        int[] due = {NONE, NONE, NONE, NONE, 2};
        for (int flaw = 0; flaw <= 4; flaw++) {
            x.set(0, 0, flaw);
            is("flaw " + flaw, x.wise(0, 0), due[flaw]);
        }
        x.free(1);
        is("b does not fall", x.wise(0, 0), 3);
    }

    private static void rest() {
        FallWith x = threeWho();
        x.set(0, 0, 4);
        row("both by one", what -> x.rest(0, what), 0, 1, 0);
        x.set(0, 0, 2);
        row("nobody", what -> x.rest(0, what), 0, 0, 3);
        x.set(1, 0, 2);
        row("b, and a then", what -> x.rest(0, what), 0, 2, 0);
        x.ask(1, 2, 0);
        row("b was told", what -> x.rest(0, what), 0, 1, 0);
        is("none was told by it", x.told(1), 1);
    }

    // ---- terms: 4 what holds

    private static void readTermsOfHolds() {
        reading.says("======== 4 HEAL: of ACTS with a FLAW the fewest such that, if these are HEALED from DAY 0 on (all else as it is), told"
                + " ACTS all stand on a DAY; of several sets the least as bits.", ReadingOfTermsTest::heal);
        reading.says("PILLAR of a DAY: of ACTS that stand the one without which (as if it were not SOUND) most others do not; of several the"
                + " least.", ReadingOfTermsTest::pillar);
        reading.says("```text HANGS: if it is not known of some ACTS whether they are GOOD: 2: an ACT stands on a DAY however that is, 0: it"
                + " does not however, 1: else.", ReadingOfTermsTest::hangs);
        reading.says("SAFE: the first DAY, not ahead of its own, such that from it till DAY 99 on each DAY the ACT stands, also by each one"
                + " ASKING more of that DAY that would COUNT.", ReadingOfTermsTest::safe);
        reading.says("BESIDE: ACTS that stand on a DAY by one LAW and not by the other one. ```", ReadingOfTermsTest::beside);
    }

    private static void heal() {
        FallWith x = Stories.withActs(6);
        Stories.lean(x, 5, "a+b|c+d|d+e");
        for (int act = 0; act < 5; act++) {
            x.set(act, 0, 1);
        }
        row("of three pairs the least", what -> x.heal(32, 0, what), 0, 3, 2);
        row("d is told too", what -> x.heal(32 + 8, 0, what), 0, 4 + 8, 2);
        row("e is told too", what -> x.heal(32 + 16, 0, what), 0, 8 + 16, 2);
        x.set(3, 0, 0);
        row("d has no flaw", what -> x.heal(32, 0, what), 0, 4, 1);
        row("e is told too", what -> x.heal(32 + 16, 0, what), 0, 16, 1);
        x.set(3, 0, 4);
        x.ask(3, 0, 1);
        row("the day ahead of an asking for d", what -> x.heal(32, 0, what), 0, 4, 1);
        row("the day of the asking", what -> x.heal(32, 1, what), 0, 3, 2);
        row("d against its asking", what -> x.heal(8, 1, what), 0, 8, 1);
    }

    private static void pillar() {
        FallWith x = Stories.withActs(5);
        row("none leans", what -> x.pillar(0, what), 0, 0, 0);
        Stories.lean(x, 0, "d|e");
        row("one of two is left", what -> x.pillar(0, what), 0, 0, 0);
        Stories.lean(x, 1, "e");
        Stories.lean(x, 2, "d");
        row("of d and e the least", what -> x.pillar(0, what), 0, 3, 1);
        x.set(3, 0, 1);
        row("a leans on e alone now", what -> x.pillar(0, what), 0, 4, 2);
        x.set(4, 0, 1);
        row("nothing stands", what -> x.pillar(0, what), 0, NONE, 0);
    }

    private static void hangs() {
        FallWith x = Stories.chain(3);
        x.set(0, 0, 1);
        x.law(0, 1);
        row("none is GOOD, of a", bits -> x.hangs(0, 0, bits), 0, 0, 0, 0, 0, 0, 0, 0, 0, OUTSIDE);
        row("none is GOOD, of b", bits -> x.hangs(1, 0, bits), 0, 0, 0, 1, 1, 0, 0, 1, 1, OUTSIDE);
        row("none is GOOD, of c", bits -> x.hangs(2, 0, bits), 0, 0, 0, 1, 1, 1, 1, 1, 1, OUTSIDE);
        x.set(1, 3, 1);
        row("b is GOOD, of c", bits -> x.hangs(2, 0, bits), 0, 2, 2, 1, 1, 2, 2, 1, 1, OUTSIDE);
        x.law(0, 0);
        row("LAW 0, of c", bits -> x.hangs(2, 0, bits), 0, 0, 0, 0, 0, 0, 0, 0, 0, OUTSIDE);
        x.set(0, 0, 0);
        row("LAW 0, a stands, of c", bits -> x.hangs(2, 0, bits), 0, 2, 2, 2, 2, 2, 2, 2, 2, OUTSIDE);
    }

    private static void safe() {
        FallWith x = new FallWith();
        x.act(5, 0, 1, 10);
        x.act(8, 0, 1, 10);
        x.act(8, 0, 1, 10);
        x.act(0, 0, 1, 10);
        Stories.lean(x, 1, "a");
        Stories.lean(x, 2, "a|d");
        x.set(0, 0, 4);
        x.set(0, 1, 10);
        row("safe", x::safe, 0, 16, 16, 8, 0);
        x.set(3, 0, 4);
        row("one asking for d is no harm for c", x::safe, 0, 16, 16, 8, NONE);
        x.set(3, 0, 1);
        row("d is NOUGHT", x::safe, 0, 16, 16, 16, NONE);
        x.set(3, 2, 12);
        row("d is HEALED from 12 on", x::safe, 0, 16, 16, 12, 12);
        x.set(0, 1, 94);
        row("a may be asked for till the last DAY", x::safe, 0, NONE, NONE, 12, 12);
        x.set(0, 1, 93);
        row("a may be asked for till the DAY ahead of it", x::safe, 0, 99, 99, 12, 12);
    }

    private static void beside() {
        FallWith x = goodOne();
        x.act(7, 0, 1, 10);
        Stories.lean(x, 2, "b");
        is("ahead of the DAY of c", x.beside(6), 2);
        is("on the DAY of c", x.beside(7), 2 + 4);
        x.set(0, 0, 0);
        is("a holds them up", x.beside(7), 0);
    }

    // ---- the constants, and what the interface says

    private static void readConstants() {
        reading.says("The constants: `UNKNOWN = -1, OUTSIDE = -2, STATE = -3, FULL = -4, NO = -5, NONE = -6`: What refused calls answer; NONE:"
                + " there is none.", ReadingOfTermsTest::constants);
        reading.says("`LOST = -1000000000`: What is told of numbers that may be below 0: LOST and the refusal.", ReadingOfTermsTest::lost);
        reading.says("Ahead of the calls `act`, `set`, `law`, `say`, `wipe`, `fault`, `leans`, `free` the interface says: ---- 1 acts.",
                () -> ahead("---- 1 acts", "act set law say wipe fault leans free", "---- 2 askings, what stands"));
        reading.says("Ahead of the calls `ask`, `counts`, `drop`, `all`, `why`, `under` the interface says: ---- 2 askings, what stands.",
                () -> ahead("---- 2 askings, what stands", "ask counts drop all why under", "---- 3 falls"));
        reading.says("Ahead of the calls `fall`, `back`, `wise`, `rest` the interface says: ---- 3 falls.",
                () -> ahead("---- 3 falls", "fall back wise rest", "---- 4 what holds"));
        reading.says("Ahead of the calls `heal`, `pillar`, `hangs`, `safe`, `beside`, `told` the interface says: ---- 4 what holds.",
                () -> ahead("---- 4 what holds", "heal pillar hangs safe beside told", ""));
    }

    private static void constants() {
        is("UNKNOWN", FallWith.UNKNOWN, -1);
        is("OUTSIDE", FallWith.OUTSIDE, -2);
        is("STATE", FallWith.STATE, -3);
        is("FULL", FallWith.FULL, -4);
        is("NO", FallWith.NO, -5);
        is("NONE", FallWith.NONE, -6);
    }

    /** Only back may be below 0 without a refusal: its refusals can not be taken for a number of fruits. */
    private static void lost() {
        is("LOST", FallWith.LOST, -1000000000);
        FallWith x = Stories.withActs(1);
        is("LOST and UNKNOWN", x.back(1, 0, 0, 0), -1000000001);
        is("LOST and OUTSIDE", x.back(0, 0, 100, 0), -1000000002);
        is("LOST and NO", x.back(0, 0, 0, 0), -1000000005);
        for (int worth = 1; worth <= 6; worth++) {
            FallWith y = new FallWith();
            y.act(0, 0, 1, worth);
            y.set(0, 0, 4);
            is("a number below 0", y.back(0, 0, 0, 1), -worth);
        }
    }

    private static void ahead(String words, String calls, String nextWords) {
        int from = source.indexOf("// " + words);
        int till = nextWords.isEmpty() ? source.length() : source.indexOf("// " + nextWords);
        reading.holds("the class says " + words, from >= 0);
        for (String call : calls.split(" ")) {
            int at = source.indexOf("public int " + call + "(");
            reading.holds(call + " stands there", at > from && at < till);
        }
    }
}
