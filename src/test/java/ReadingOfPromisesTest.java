import java.io.IOException;

/**
 * The promises from the first to the last and "Not promised", each sentence in its turn, on one object whose story goes
 * on from promise to promise: a fault that only shows behind other calls comes to light here.
 */
public final class ReadingOfPromisesTest {
    private static final int UNKNOWN = -1, OUTSIDE = -2, FULL = -4, NO = -5, NONE = -6;
    private static final int LOST = -1000000000;
    private static Reading reading;
    private static FallWith x;
    private static int calls = 0;

    public static void main(String[] args) throws IOException {
        reading = new Reading("## Promise 1:", "");
        readActs();
        readTexts();
        readAskings();
        readFalls();
        readHolds();
        readNotPromised();
        reading.holds("the story stays within the 512 calls of an object: " + calls, calls <= 512);
        reading.close();
    }

    private static void is(String call, int got, int want) {
        calls++;
        reading.is(call, got, want);
    }

    private static void lean(int act, String text, int alls) {
        for (int k = 0; k < text.length(); k++) {
            is("say " + text.charAt(k) + " of " + text, x.say(text.charAt(k)), k + 1);
        }
        is("leans(" + act + ") by " + text, x.leans(act), alls);
    }

    // ---- promises 1 to 4

    private static void readActs() {
        reading.passOver("## Promise 1: A new object `FallWith()`:");
        reading.says("No ACTS, ASKINGS; LAW 0, RATE 1; the PAD is empty.", ReadingOfPromisesTest::newObject);
        reading.passOver("## Promise 2: act `int act(int day, int giver, int taker, int worth)`:");
        reading.says("An ACT: its number.", ReadingOfPromisesTest::sixActs);
        reading.says("UNKNOWN: GIVER, TAKER, also both are one; OUTSIDE; FULL.", ReadingOfPromisesTest::refusedActs);
        reading.passOver("## Promise 3: set `int set(int act, int what, int v)`:");
        reading.says("0 FLAW, 1 YEARS, 2 the DAY from which it is HEALED (-1: not), 3 GOOD of an ACT: which it was (NONE of 2).",
                ReadingOfPromisesTest::settings);
        reading.says("UNKNOWN; OUTSIDE.", ReadingOfPromisesTest::refusedSettings);
        reading.passOver("## Promise 4: law `int law(int which, int v)`:");
        reading.says("0 LAW, 1 RATE: which it was.", ReadingOfPromisesTest::lawAndRate);
        reading.says("OUTSIDE.", ReadingOfPromisesTest::refusedLaws);
    }

    private static void newObject() {
        x = new FallWith();
        int[] first = {0, 0, 0, 0, 1};
        for (int what = 0; what < first.length; what++) {
            is("told(" + what + ")", x.told(what), first[what]);
        }
    }

    private static void sixActs() {
        is("a", x.act(5, 0, 1, 40), 0);
        is("b", x.act(10, 1, 2, 50), 1);
        is("c", x.act(15, 2, 3, 60), 2);
        is("d", x.act(20, 3, 0, 20), 3);
        is("e", x.act(0, 0, 2, 10), 4);
        is("f", x.act(30, 1, 3, 5), 5);
    }

    private static void refusedActs() {
        is("GIVER", x.act(5, 4, 1, 40), UNKNOWN);
        is("TAKER", x.act(5, 0, -1, 40), UNKNOWN);
        is("both are one", x.act(5, 2, 2, 40), UNKNOWN);
        is("DAY", x.act(100, 0, 1, 40), OUTSIDE);
        is("WORTH", x.act(5, 0, 1, 100), OUTSIDE);
        for (int k = 6; k < 12; k++) {
            is("of the last day", x.act(99, 0, 1, 0), k);
        }
        is("the thirteenth", x.act(5, 0, 1, 40), FULL);
    }

    private static void settings() {
        is("anybody may ask for a", x.set(0, 0, 4), 0);
        is("for 60 days", x.set(0, 1, 60), 99);
        is("the GIVER for b", x.set(1, 0, 2), 0);
        is("c is NOUGHT", x.set(2, 0, 1), 0);
        is("and healed", x.set(2, 2, 24), NONE);
        is("a day later", x.set(2, 2, 25), 24);
        is("d is GOOD", x.set(3, 3, 1), 0);
        is("the TAKER for e", x.set(4, 0, 3), 0);
        is("for 50 days", x.set(4, 1, 50), 99);
        is("healed", x.set(4, 2, 0), NONE);
        is("not healed", x.set(4, 2, -1), 0);
        is("not healed still", x.set(4, 2, -1), NONE);
    }

    private static void refusedSettings() {
        is("no such act", x.set(12, 0, 0), UNKNOWN);
        is("no such setting", x.set(0, 4, 0), OUTSIDE);
        is("FLAW", x.set(0, 0, 5), OUTSIDE);
        is("YEARS", x.set(0, 1, 100), OUTSIDE);
        is("HEALED", x.set(0, 2, -2), OUTSIDE);
        is("GOOD", x.set(0, 3, 2), OUTSIDE);
    }

    private static void lawAndRate() {
        is("LAW", x.law(0, 1), 0);
        is("LAW again", x.law(0, 0), 1);
        is("RATE", x.law(1, 2), 1);
        is("RATE again", x.law(1, 2), 2);
    }

    private static void refusedLaws() {
        is("which", x.law(2, 0), OUTSIDE);
        is("LAW", x.law(0, 2), OUTSIDE);
        is("RATE", x.law(1, 10), OUTSIDE);
    }

    // ---- promises 5 to 9

    private static void readTexts() {
        reading.passOver("## Promise 5: say `int say(int sign)`:");
        reading.says("A sign more: how many.", ReadingOfPromisesTest::fortySigns);
        reading.says("OUTSIDE; FULL.", ReadingOfPromisesTest::refusedSigns);
        reading.passOver("## Promise 6: wipe `int wipe()`:");
        reading.says("Signs go: how many there were.", ReadingOfPromisesTest::signsGo);
        reading.passOver("## Promise 7: fault `int fault()`:");
        reading.says("THE FAULT of the signs; NONE.", ReadingOfPromisesTest::faults);
        reading.passOver("## Promise 8: leans `int leans(int act)`:");
        reading.says("The signs are the text of an ACT (they are gone then): ALLS.", ReadingOfPromisesTest::texts);
        reading.says("UNKNOWN; NO: there is a FAULT.", ReadingOfPromisesTest::refusedTexts);
        reading.passOver("## Promise 9: free `int free(int act)`:");
        reading.says("An ACT has no text any more: how many ALLS it had. UNKNOWN.", ReadingOfPromisesTest::freed);
    }

    private static void fortySigns() {
        for (int n = 1; n <= 40; n++) {
            is("sign " + n, x.say(n % 2 == 0 ? 33 : 126), n);
        }
    }

    private static void refusedSigns() {
        is("code 32", x.say(32), OUTSIDE);
        is("code 127", x.say(127), OUTSIDE);
        is("one more", x.say('a'), FULL);
    }

    private static void signsGo() {
        is("forty", x.wipe(), 40);
        is("none", x.wipe(), 0);
    }

    private static void faults() {
        is("of none", x.fault(), 0);
        is("a", x.say('a'), 1);
        is("of a", x.fault(), NONE);
        is("+", x.say('+'), 2);
        is("of a+", x.fault(), 2);
        is("e", x.say('e'), 3);
        is("of a+e", x.fault(), NONE);
        is("!", x.say('!'), 4);
        is("of a+e!", x.fault(), 3);
    }

    private static void texts() {
        is("the signs go", x.wipe(), 4);
        lean(1, "a", 1);
        is("no signs are left", x.told(2), 0);
        lean(2, "b|a+e", 2);
        lean(3, "c", 1);
        lean(5, "b+d", 1);
    }

    private static void refusedTexts() {
        is("no signs", x.leans(0), NO);
        is("no such act", x.leans(12), UNKNOWN);
        is("none of it changed a text", x.told(10), 0);
    }

    private static void freed() {
        is("no such act", x.free(12), UNKNOWN);
        is("of no text", x.free(4), 0);
        lean(4, "f|e|l", 3);
        is("of three ALLS", x.free(4), 3);
        is("of none any more", x.free(4), 0);
    }

    // ---- promises 10 to 15

    private static void readAskings() {
        reading.passOver("## Promise 10: ask `int ask(int act, int who, int day)`:");
        reading.says("An ASKING: its number.", ReadingOfPromisesTest::threeAskings);
        reading.says("UNKNOWN; OUTSIDE; FULL.", ReadingOfPromisesTest::refusedAskings);
        reading.passOver("## Promise 11: counts `int counts(int asking)`:");
        reading.says("Whether an ASKING COUNTS: 1, 0. UNKNOWN.", ReadingOfPromisesTest::oneOfThreeCounts);
        reading.passOver("## Promise 12: drop `int drop()`:");
        reading.says("The last ASKING goes: how many are left. NO: there is none.", ReadingOfPromisesTest::dropped);
        reading.passOver("## Promise 13: all `int all(int day, int how)`:");
        reading.says("ACTS on a DAY, as bits: SOUND (how = 0), THE MOST (1), THE LEAST (2). OUTSIDE.", ReadingOfPromisesTest::whatStands);
        reading.passOver("## Promise 14: why `int why(int act, int day)`:");
        reading.says("WHY. UNKNOWN; OUTSIDE.", ReadingOfPromisesTest::whyNot);
        reading.passOver("## Promise 15: under `int under(int act)`:");
        reading.says("UNDER an ACT, as bits. UNKNOWN.", ReadingOfPromisesTest::whatIsUnder);
    }

    private static void threeAskings() {
        is("for a, too late", x.ask(0, 2, 70), 0);
        is("for b, by its TAKER", x.ask(1, 2, 40), 1);
        is("for e, by its TAKER", x.ask(4, 2, 45), 2);
    }

    private static void refusedAskings() {
        is("no such act", x.ask(12, 0, 0), UNKNOWN);
        is("no such WHO", x.ask(0, 4, 0), UNKNOWN);
        is("no such DAY", x.ask(0, 0, 100), OUTSIDE);
        for (int k = 3; k < 12; k++) {
            is("for f, that has no flaw", x.ask(5, 0, 50), k);
        }
        is("the thirteenth", x.ask(0, 0, 50), FULL);
    }

    private static void oneOfThreeCounts() {
        int[] due = {0, 0, 1, 0, 0, 0, 0, 0, 0, 0, 0, 0, UNKNOWN};
        for (int asking = 0; asking < due.length; asking++) {
            is("counts(" + asking + ")", x.counts(asking), due[asking]);
        }
    }

    private static void dropped() {
        for (int left = 11; left >= 3; left--) {
            is("left", x.drop(), left);
        }
        reading.is("of a new object", new FallWith().drop(), NO);
    }

    private static void whatStands() {
        int[] days = {9, 20, 25, 30, 44, 45};
        int[] sound = {1 + 16, 1 + 2 + 8 + 16, 31, 63, 63, 63 - 16};
        int[] most = {1 + 16, 1 + 2 + 16, 31, 63, 63, 63 - 16};
        for (int k = 0; k < days.length; k++) {
            is("SOUND on " + days[k], x.all(days[k], 0), sound[k]);
            is("THE MOST on " + days[k], x.all(days[k], 1), most[k]);
            is("THE LEAST on " + days[k], x.all(days[k], 2), most[k]);
        }
        is("no such DAY", x.all(100, 1), OUTSIDE);
        is("no such set", x.all(0, 3), OUTSIDE);
    }

    private static void whyNot() {
        is("e ahead of its asking", x.why(4, 44), 0);
        is("c ahead of its day", x.why(2, 14), 1);
        is("c ahead of its healing", x.why(2, 24), 2);
        is("e from its asking on", x.why(4, 45), 3);
        is("d, that leans on c", x.why(3, 24), 4);
        is("no such act", x.why(12, 0), UNKNOWN);
        is("no such DAY", x.why(0, 100), OUTSIDE);
    }

    private static void whatIsUnder() {
        int[] due = {0, 1, 1 + 2 + 16, 1 + 2 + 4 + 16, 0, 1 + 2 + 4 + 8 + 16};
        for (int act = 0; act < due.length; act++) {
            is("under(" + act + ")", x.under(act), due[act]);
        }
        is("no such act", x.under(12), UNKNOWN);
    }

    // ---- promises 16 to 19

    private static void readFalls() {
        reading.passOver("## Promise 16: fall `int fall(int act, int who, int day, int i)`:");
        reading.says("FALL of an ASKING more: ACTS, as bits (i = -2), how many STEPS (-1), ACTS of the i-th STEP, as bits; NONE.",
                ReadingOfPromisesTest::steps);
        reading.says("UNKNOWN; OUTSIDE; NO: it would not COUNT.", ReadingOfPromisesTest::refusedFalls);
        reading.passOver("## Promise 17: back `int back(int act, int who, int day, int whom)`:");
        reading.says("BACK of it: what a WHO has more.", ReadingOfPromisesTest::goesBack);
        reading.says("UNKNOWN, OUTSIDE, NO (LOST less 1, 2, 5).", ReadingOfPromisesTest::refusedBacks);
        reading.passOver("## Promise 18: wise `int wise(int act, int day)`:");
        reading.says("WISE; NONE. UNKNOWN; OUTSIDE.", ReadingOfPromisesTest::whoIsWise);
        reading.passOver("## Promise 19: rest `int rest(int day, int what)`:");
        reading.says("REST: ASKINGS more (what = 0), ACTS that stand then, as bits (1). OUTSIDE.", ReadingOfPromisesTest::rests);
    }

    private static void steps() {
        is("all", x.fall(0, 3, 40, -2), 63 - 16);
        is("how many", x.fall(0, 3, 40, -1), 4);
        is("a", x.fall(0, 3, 40, 0), 1);
        is("b", x.fall(0, 3, 40, 1), 2);
        is("c and f", x.fall(0, 3, 40, 2), 4 + 32);
        is("d", x.fall(0, 3, 40, 3), 8);
        is("none more", x.fall(0, 3, 40, 4), NONE);
        is("none below", x.fall(0, 3, 40, -3), NONE);
    }

    private static void refusedFalls() {
        is("no such act", x.fall(12, 3, 40, 0), UNKNOWN);
        is("no such WHO", x.fall(0, 4, 40, 0), UNKNOWN);
        is("no such DAY", x.fall(0, 3, 100, 0), OUTSIDE);
        is("the last day on which it counts", x.fall(0, 3, 65, 0), 1);
        is("too late", x.fall(0, 3, 66, 0), NO);
    }

    /** 68 from 1 to 0, 80 from 2 to 1, 90 from 3 to 2, 28 from 0 to 3, 6 from 3 to 1. */
    private static void goesBack() {
        int[] due = {68 - 28, 80 + 6 - 68, 90 - 80, 28 - 90 - 6};
        for (int whom = 0; whom < 4; whom++) {
            is("of " + whom, x.back(0, 3, 40, whom), due[whom]);
        }
    }

    private static void refusedBacks() {
        is("no such act", x.back(12, 3, 40, 0), LOST - 1);
        is("no such WHO", x.back(0, -1, 40, 0), LOST - 1);
        is("no such WHOM", x.back(0, 3, 40, 4), LOST - 1);
        is("no such DAY", x.back(0, 3, 100, 0), LOST - 2);
        is("too late", x.back(0, 3, 66, 0), LOST - 5);
    }

    private static void whoIsWise() {
        is("a: its GIVER has 40 more", x.wise(0, 40), 0);
        is("b: its GIVER has 86 more", x.wise(1, 40), 1);
        is("c: nobody may ask", x.wise(2, 40), NONE);
        is("e: its TAKER has less", x.wise(4, 40), NONE);
        is("no such act", x.wise(12, 40), UNKNOWN);
        is("no such DAY", x.wise(0, 100), OUTSIDE);
    }

    private static void rests() {
        is("on 40, a is asked for", x.rest(40, 0), 1);
        is("on 40, e stands", x.rest(40, 1), 16);
        is("on 66, b is asked for", x.rest(66, 0), 1);
        is("on 66, a stands", x.rest(66, 1), 1);
        is("no such DAY", x.rest(100, 0), OUTSIDE);
        is("no such number", x.rest(40, 2), OUTSIDE);
    }

    // ---- promises 20 to 25

    private static void readHolds() {
        reading.passOver("## Promise 20: heal `int heal(int acts, int day, int what)`:");
        reading.says("HEAL for told ACTS (bits): the set as bits (what = 0), how many (1).", ReadingOfPromisesTest::heals);
        reading.says("OUTSIDE: also bits of no ACT; NO: nothing does.", ReadingOfPromisesTest::refusedHeals);
        reading.passOver("## Promise 21: pillar `int pillar(int day, int what)`:");
        reading.says("PILLAR: the ACT (what = 0; NONE: nothing stands), how many others (1). OUTSIDE.", ReadingOfPromisesTest::pillars);
        reading.passOver("## Promise 22: hangs `int hangs(int act, int day, int acts)`:");
        reading.says("HANGS, of some ACTS (bits). UNKNOWN; OUTSIDE.", ReadingOfPromisesTest::hangings);
        reading.passOver("## Promise 23: safe `int safe(int act)`:");
        reading.says("SAFE; NONE. UNKNOWN.", ReadingOfPromisesTest::safes);
        reading.passOver("## Promise 24: beside `int beside(int day)`:");
        reading.says("BESIDE, as bits. OUTSIDE.", ReadingOfPromisesTest::byTheOtherLaw);
        reading.passOver("## Promise 25: told `int told(int what)`:");
        reading.says("0 ACTS, 1 ASKINGS, 2 signs, 3 LAW, 4 RATE, 10 to 21 ALLS of ACTS. OUTSIDE. (0 of ACTS that there are not.)",
                ReadingOfPromisesTest::tellings);
    }

    private static void heals() {
        is("c, so that d stands", x.heal(8, 20, 0), 4);
        is("one", x.heal(8, 20, 1), 1);
        is("e, against its asking", x.heal(8 + 16, 45, 0), 16);
        is("nothing is to heal", x.heal(63, 44, 1), 0);
        is("c, so that five stand", x.heal(1 + 2 + 4 + 8 + 16, 24, 0), 4);
    }

    private static void refusedHeals() {
        is("bits of no act", x.heal(4096, 20, 0), OUTSIDE);
        is("no such DAY", x.heal(0, 100, 0), OUTSIDE);
        is("no such number", x.heal(0, 0, 2), OUTSIDE);
        is("not done by then", x.heal(2048, 98, 0), NO);
    }

    private static void pillars() {
        is("a", x.pillar(40, 0), 0);
        is("with b, c, d and f", x.pillar(40, 1), 4);
        is("e alone stands", x.pillar(0, 0), 4);
        is("and holds nothing up", x.pillar(0, 1), 0);
        is("no such DAY", x.pillar(100, 0), OUTSIDE);
        is("no such number", x.pillar(0, 2), OUTSIDE);
        reading.is("of a new object", new FallWith().pillar(0, 0), NONE);
    }

    private static void hangings() {
        is("LAW 0", x.hangs(3, 20, 8), 0);
        is("LAW 1 now", x.law(0, 1), 0);
        is("d is GOOD", x.hangs(3, 20, 0), 2);
        is("if that is not known", x.hangs(3, 20, 8), 1);
        is("c is NOUGHT", x.hangs(2, 20, 4095), 0);
        is("no such act", x.hangs(12, 20, 0), UNKNOWN);
        is("no such DAY", x.hangs(0, 100, 0), OUTSIDE);
        is("bits of no act", x.hangs(0, 20, 4096), OUTSIDE);
        is("LAW 0 again", x.law(0, 0), 1);
    }

    private static void safes() {
        int[] atFirst = {66, NONE, NONE, NONE, NONE, NONE, 99};
        for (int act = 0; act < atFirst.length; act++) {
            is("safe(" + act + ")", x.safe(act), atFirst[act]);
        }
        is("b is healed from 80 on", x.set(1, 2, 80), NONE);
        int[] then = {66, 80, 80, 80, NONE, 80, 99};
        for (int act = 0; act < then.length; act++) {
            is("safe(" + act + ")", x.safe(act), then[act]);
        }
        is("not healed", x.set(1, 2, -1), 80);
        is("no such act", x.safe(12), UNKNOWN);
    }

    private static void byTheOtherLaw() {
        is("d is not done", x.beside(19), 0);
        is("d, that is GOOD", x.beside(20), 8);
        is("d stands by both", x.beside(25), 0);
        is("no such DAY", x.beside(100), OUTSIDE);
    }

    private static void tellings() {
        int[] first = {12, 3, 0, 0, 2, OUTSIDE, OUTSIDE, OUTSIDE, OUTSIDE, OUTSIDE};
        for (int what = 0; what < first.length; what++) {
            is("told(" + what + ")", x.told(what), first[what]);
        }
        int[] alls = {0, 1, 2, 1, 0, 1, 0, 0, 0, 0, 0, 0};
        for (int act = 0; act < alls.length; act++) {
            is("told(" + (10 + act) + ")", x.told(10 + act), alls[act]);
        }
        is("told(22)", x.told(22), OUTSIDE);
        is("told(-1)", x.told(-1), OUTSIDE);
        reading.is("of an act that there is not", new FallWith().told(21), 0);
    }

    /** All of it is free: no test may ask for more. */
    private static void readNotPromised() {
        reading.passOver("## Not promised");
        reading.passOver("How the state is held inside the object is free, as are the speed of each call, the text of toString and the"
                + " behaviour of equals and hashCode.");
        reading.passOver("Use of one object from several threads at once is not promised to be safe.");
        reading.passOver("Nothing is promised beyond the answers and state changes described above, and nothing about an object"
                + " after its 512th call.");
    }
}
