import static java.lang.Integer.MAX_VALUE;
import static java.lang.Integer.MIN_VALUE;

/** Each promise by itself: ordinary inputs, the edges that the document names, wrong inputs. */
public final class PromisesTest {
    private static final Due DUE = new Due();
    private static final int UNKNOWN = -1, OUTSIDE = -2, FULL = -4, NO = -5, NONE = -6;
    private static final int LOST = -1000000000;

    public static void main(String[] args) {
        promise1();
        promise2();
        promise3();
        promise4();
        promise5();
        promise6();
        promise7();
        promise8();
        promise9();
        promise10();
        promise11();
        promise12();
        promise13();
        promise14();
        promise15();
        promise16();
        promise17();
        promise18();
        promise19();
        promise20();
        promise21();
        promise22();
        promise23();
        promise24();
        promise25();
        DUE.close();
    }

    private static void due(String call, int got, int want) {
        DUE.is(call, got, want);
    }

    /** So many acts from WHO 0 to WHO 1, each worth 10, act k done on day k. */
    private static FallWith withActs(int n) {
        FallWith x = new FallWith();
        for (int k = 0; k < n; k++) {
            due("act " + k, x.act(k, 0, 1, 10), k);
        }
        return x;
    }

    private static void sayAll(FallWith x, String text) {
        for (int k = 0; k < text.length(); k++) {
            due("say " + text.charAt(k) + " of " + text, x.say(text.charAt(k)), k + 1);
        }
    }

    private static void lean(FallWith x, int act, String text) {
        sayAll(x, text);
        int alls = 1;
        for (char c : text.toCharArray()) {
            alls += c == '|' ? 1 : 0;
        }
        due("leans(" + act + ") by " + text, x.leans(act), alls);
    }

    private static int faultOf(String text) {
        FallWith x = new FallWith();
        sayAll(x, text);
        return x.fault();
    }

    private static void promise1() {
        FallWith x = new FallWith();
        for (int what = 0; what <= 3; what++) {
            due("1: told(" + what + ")", x.told(what), 0);
        }
        due("1: RATE", x.told(4), 1);
        for (int what = 10; what <= 21; what++) {
            due("1: told(" + what + ")", x.told(what), 0);
        }
        due("1: all SOUND", x.all(99, 0), 0);
        due("1: all MOST", x.all(99, 1), 0);
        due("1: all LEAST", x.all(99, 2), 0);
        due("1: fault", x.fault(), 0);
        due("1: wipe", x.wipe(), 0);
        due("1: drop", x.drop(), NO);
        due("1: counts", x.counts(0), UNKNOWN);
        due("1: why", x.why(0, 0), UNKNOWN);
        due("1: under", x.under(0), UNKNOWN);
        due("1: safe", x.safe(0), UNKNOWN);
        due("1: rest", x.rest(0, 0), 0);
        due("1: rest", x.rest(0, 1), 0);
        due("1: heal", x.heal(0, 0, 0), 0);
        due("1: heal", x.heal(1, 0, 0), OUTSIDE);
        due("1: pillar", x.pillar(0, 0), NONE);
        due("1: pillar", x.pillar(0, 1), 0);
        due("1: beside", x.beside(0), 0);
        FallWith y = new FallWith();
        due("1: objects are apart", y.act(0, 0, 1, 0), 0);
        due("1: objects are apart", x.told(0), 0);
    }

    private static void promise2() {
        FallWith x = new FallWith();
        int[] noWho = {-1, 4, MIN_VALUE, MAX_VALUE};
        for (int who : noWho) {
            due("2: giver", x.act(0, who, 1, 0), UNKNOWN);
            due("2: taker", x.act(0, 1, who, 0), UNKNOWN);
            due("2: UNKNOWN ahead of OUTSIDE", x.act(100, who, 1, 100), UNKNOWN);
        }
        for (int who = 0; who < 4; who++) {
            due("2: both one", x.act(0, who, who, 0), UNKNOWN);
            due("2: both one ahead of OUTSIDE", x.act(-1, who, who, -1), UNKNOWN);
        }
        int[] out = {-1, 100, MIN_VALUE, MAX_VALUE};
        for (int v : out) {
            due("2: day", x.act(v, 0, 1, 0), OUTSIDE);
            due("2: worth", x.act(0, 0, 1, v), OUTSIDE);
        }
        due("2: nothing was told", x.told(0), 0);
        due("2: least numbers", x.act(0, 0, 3, 0), 0);
        due("2: greatest numbers", x.act(99, 3, 0, 99), 1);
        for (int k = 2; k < 12; k++) {
            due("2: the next", x.act(k, k % 4, (k + 1) % 4, k), k);
        }
        due("2: full", x.act(0, 0, 1, 0), FULL);
        due("2: UNKNOWN ahead of FULL", x.act(0, 1, 1, 0), UNKNOWN);
        due("2: OUTSIDE ahead of FULL", x.act(100, 0, 1, 0), OUTSIDE);
        due("2: twelve", x.told(0), 12);
        due("2: what they are at first", x.all(99, 2), 4095);
        due("2: on day 98", x.all(98, 0), 4093);
        due("2: on day 0", x.all(0, 0), 1);
    }

    private static void promise3() {
        FallWith x = withActs(2);
        int[] noAct = {-1, 2, 12, MIN_VALUE, MAX_VALUE};
        for (int act : noAct) {
            due("3: act", x.set(act, 0, 0), UNKNOWN);
            due("3: UNKNOWN ahead of OUTSIDE", x.set(act, 4, 100), UNKNOWN);
        }
        int[] noWhat = {-1, 4, MIN_VALUE, MAX_VALUE};
        for (int what : noWhat) {
            due("3: what", x.set(0, what, 0), OUTSIDE);
        }
        int[][] out = {{-1, 5}, {-1, 100}, {-2, 100}, {-1, 2}};
        int[][] ends = {{0, 4}, {0, 99}, {-1, 99}, {0, 1}};
        int[] first = {0, 99, NONE, 0};
        for (int what = 0; what < 4; what++) {
            due("3: below", x.set(1, what, out[what][0]), OUTSIDE);
            due("3: above", x.set(1, what, out[what][1]), OUTSIDE);
            due("3: far below", x.set(1, what, MIN_VALUE), OUTSIDE);
            due("3: far above", x.set(1, what, MAX_VALUE), OUTSIDE);
            due("3: at first", x.set(1, what, ends[what][1]), first[what]);
            due("3: the greatest", x.set(1, what, ends[what][0]), ends[what][1]);
            int least = what == 2 ? NONE : ends[what][0];
            due("3: the least", x.set(1, what, first[what] == NONE ? -1 : first[what]), least);
            due("3: of the other one", x.set(0, what, ends[what][0]), first[what]);
        }
        due("3: healed from 0 on", x.set(0, 2, 0), NONE);
        due("3: which is not NONE", x.set(0, 2, -1), 0);
        for (int flaw = 0; flaw < 4; flaw++) {
            due("3: flaws", x.set(0, 0, flaw + 1), flaw);
        }
    }

    private static void promise4() {
        FallWith x = new FallWith();
        due("4: which", x.law(-1, 0), OUTSIDE);
        due("4: which", x.law(2, 0), OUTSIDE);
        due("4: LAW below", x.law(0, -1), OUTSIDE);
        due("4: LAW above", x.law(0, 2), OUTSIDE);
        due("4: RATE below", x.law(1, -1), OUTSIDE);
        due("4: RATE above", x.law(1, 10), OUTSIDE);
        due("4: far", x.law(MIN_VALUE, MAX_VALUE), OUTSIDE);
        due("4: LAW was", x.law(0, 1), 0);
        due("4: LAW was", x.law(0, 1), 1);
        due("4: LAW told", x.told(3), 1);
        due("4: LAW was", x.law(0, 0), 1);
        due("4: RATE was", x.law(1, 9), 1);
        due("4: RATE was", x.law(1, 0), 9);
        due("4: RATE told", x.told(4), 0);
        due("4: RATE was", x.law(1, 5), 0);
        due("4: LAW is apart", x.told(3), 0);
    }

    private static void promise5() {
        FallWith x = new FallWith();
        int[] out = {32, 127, 0, -1, MIN_VALUE, MAX_VALUE};
        for (int sign : out) {
            due("5: sign " + sign, x.say(sign), OUTSIDE);
        }
        due("5: the first sign", x.say(33), 1);
        due("5: the last sign", x.say(126), 2);
        for (int k = 3; k <= 40; k++) {
            due("5: how many", x.say(97), k);
        }
        due("5: full", x.say(97), FULL);
        due("5: OUTSIDE ahead of FULL", x.say(32), OUTSIDE);
        due("5: forty", x.told(2), 40);
    }

    private static void promise6() {
        FallWith x = new FallWith();
        due("6: none", x.wipe(), 0);
        sayAll(x, "a+b");
        due("6: three", x.wipe(), 3);
        due("6: gone", x.told(2), 0);
        due("6: gone", x.wipe(), 0);
        for (int k = 1; k <= 40; k++) {
            due("6: say", x.say(43), k);
        }
        due("6: forty", x.wipe(), 40);
        due("6: room again", x.say(97), 1);
        due("6: the old ones are gone", x.fault(), NONE);
    }

    private static void promise7() {
        due("7: none", faultOf(""), 0);
        String[] well = {"a", "l", "a+b", "a|b", "a+a", "a|a", "a+b|c+d|e", "l|k+j"};
        for (String text : well) {
            due("7: " + text, faultOf(text), NONE);
        }
        String[] wrong = {"m", "+", "|", "A", "`", "aa", "a+", "a|", "a++", "a+|", "a|+", "a||", "a+m", "a+b!", "a+b|c+z", "a-b", "!~"};
        int[] places = {0, 0, 0, 0, 0, 1, 2, 2, 2, 2, 2, 2, 2, 3, 6, 1, 0};
        for (int k = 0; k < wrong.length; k++) {
            due("7: " + wrong[k], faultOf(wrong[k]), places[k]);
        }
        due("7: the first of two", faultOf("ab+"), 1);
        String long39 = "a+b|".repeat(9) + "c+d";
        due("7: 39 signs", faultOf(long39), NONE);
        due("7: 40 signs, more must come", faultOf(long39 + "|"), 40);
        due("7: 40 signs, the last is wrong", faultOf(long39 + "a"), 39);
    }

    private static void promise8() {
        FallWith x = withActs(2);
        due("8: no signs", x.leans(0), NO);
        due("8: UNKNOWN ahead of NO", x.leans(2), UNKNOWN);
        due("8: UNKNOWN", x.leans(-1), UNKNOWN);
        sayAll(x, "b+");
        due("8: a fault", x.leans(0), NO);
        due("8: the signs are left", x.told(2), 2);
        due("8: one more", x.say('l'), 3);
        due("8: UNKNOWN", x.leans(12), UNKNOWN);
        due("8: the signs are left", x.told(2), 3);
        due("8: taken", x.leans(0), 1);
        due("8: the signs are gone", x.told(2), 0);
        due("8: needs both", x.all(99, 1), 2);
        lean(x, 0, "b|l|a+b");
        due("8: three", x.told(10), 3);
        due("8: the new text goes for the old one", x.all(99, 1), 3);
        due("8: a refused one leaves the text", x.leans(0), NO);
        due("8: three still", x.told(10), 3);
        lean(x, 0, "l");
        due("8: a shorter one", x.told(10), 1);
        due("8: nothing is left of the longer one", x.all(99, 1), 2);
        lean(x, 1, "a|".repeat(19) + "l");
        due("8: twenty", x.told(11), 20);
        due("8: the last of twenty holds none", x.all(99, 1), 0);
        lean(x, 1, "l|".repeat(19) + "b");
        due("8: the last of twenty holds", x.all(99, 1), 2);
        lean(x, 1, "b+".repeat(19) + "b");
        due("8: twenty letters", x.told(11), 1);
        due("8: itself", x.all(99, 1), 2);
        later();
    }

    /** An act may be named ahead of its time. */
    private static void later() {
        FallWith x = withActs(1);
        lean(x, 0, "b");
        due("8: there is no b yet", x.all(99, 1), 0);
        due("8: b comes", x.act(50, 1, 2, 3), 1);
        due("8: not done yet", x.all(49, 1), 0);
        due("8: done", x.all(50, 1), 3);
    }

    private static void promise9() {
        FallWith x = withActs(2);
        due("9: UNKNOWN", x.free(2), UNKNOWN);
        due("9: UNKNOWN", x.free(-1), UNKNOWN);
        due("9: UNKNOWN", x.free(MAX_VALUE), UNKNOWN);
        due("9: none", x.free(0), 0);
        lean(x, 0, "l|k|j");
        due("9: does not stand", x.all(99, 1), 2);
        sayAll(x, "a");
        due("9: three", x.free(0), 3);
        due("9: the signs are left", x.told(2), 1);
        due("9: stands", x.all(99, 2), 3);
        due("9: none are left", x.free(0), 0);
    }

    private static void promise10() {
        FallWith x = withActs(1);
        int[] noWho = {-1, 4, MIN_VALUE, MAX_VALUE};
        for (int who : noWho) {
            due("10: who", x.ask(0, who, 0), UNKNOWN);
            due("10: UNKNOWN ahead of OUTSIDE", x.ask(0, who, 100), UNKNOWN);
        }
        due("10: act", x.ask(1, 0, 0), UNKNOWN);
        due("10: act", x.ask(-1, 0, 100), UNKNOWN);
        due("10: day", x.ask(0, 0, -1), OUTSIDE);
        due("10: day", x.ask(0, 0, 100), OUTSIDE);
        due("10: none of them", x.told(1), 0);
        for (int k = 0; k < 12; k++) {
            due("10: the next", x.ask(0, k % 4, k == 0 ? 99 : 0), k);
        }
        due("10: full", x.ask(0, 0, 0), FULL);
        due("10: UNKNOWN ahead of FULL", x.ask(0, 4, 0), UNKNOWN);
        due("10: OUTSIDE ahead of FULL", x.ask(0, 0, 100), OUTSIDE);
        due("10: twelve", x.told(1), 12);
    }

    private static void promise11() {
        FallWith x = new FallWith();
        x.act(10, 2, 1, 5);
        int[][] lets = {{0, 0, 0, 0}, {0, 0, 0, 0}, {0, 0, 1, 0}, {0, 1, 0, 0}, {1, 1, 1, 1}};
        for (int who = 0; who < 4; who++) {
            due("11: ask", x.ask(0, who, 20), who);
        }
        for (int flaw = 0; flaw <= 4; flaw++) {
            x.set(0, 0, flaw);
            for (int who = 0; who < 4; who++) {
                due("11: flaw " + flaw + " who " + who, x.counts(who), lets[flaw][who]);
            }
        }
        due("11: on its day", x.ask(0, 0, 10), 4);
        due("11: ahead of its day", x.ask(0, 0, 9), 5);
        due("11: on its day", x.counts(4), 1);
        due("11: ahead of its day", x.counts(5), 0);
        x.set(0, 1, 10);
        due("11: the last day", x.counts(0), 1);
        x.set(0, 1, 9);
        due("11: a day late", x.counts(0), 0);
        x.set(0, 1, 0);
        due("11: no YEARS", x.counts(4), 1);
        x.set(0, 1, 99);
        x.set(0, 2, 21);
        due("11: healed later", x.counts(0), 1);
        x.set(0, 2, 20);
        due("11: healed that day", x.counts(0), 0);
        due("11: the earlier one", x.counts(4), 1);
        x.set(0, 2, 0);
        due("11: healed from 0 on", x.counts(4), 0);
        due("11: UNKNOWN", x.counts(6), UNKNOWN);
        due("11: UNKNOWN", x.counts(-1), UNKNOWN);
        due("11: UNKNOWN", x.counts(12), UNKNOWN);
        due("11: UNKNOWN", x.counts(MAX_VALUE), UNKNOWN);
        x.drop();
        due("11: dropped", x.counts(5), UNKNOWN);
    }

    private static void promise12() {
        FallWith x = withActs(2);
        due("12: none", x.drop(), NO);
        x.set(0, 0, 4);
        x.set(1, 0, 4);
        x.ask(0, 0, 5);
        x.ask(1, 0, 5);
        due("12: both fell", x.all(5, 1), 0);
        due("12: one is left", x.drop(), 1);
        due("12: the last one went", x.all(5, 1), 2);
        due("12: none is left", x.drop(), 0);
        due("12: all stand", x.all(5, 1), 3);
        due("12: none", x.drop(), NO);
        due("12: told", x.told(1), 0);
        for (int k = 0; k < 12; k++) {
            x.ask(0, 0, 0);
        }
        due("12: full", x.ask(0, 0, 0), FULL);
        due("12: of twelve", x.drop(), 11);
        due("12: room again", x.ask(1, 1, 1), 11);
    }

    private static void promise13() {
        FallWith x = withActs(4);
        due("13: day", x.all(-1, 0), OUTSIDE);
        due("13: day", x.all(100, 0), OUTSIDE);
        due("13: how", x.all(0, -1), OUTSIDE);
        due("13: how", x.all(0, 3), OUTSIDE);
        lean(x, 1, "a+c|d");
        lean(x, 2, "b");
        due("13: SOUND", x.all(2, 0), 7);
        due("13: MOST, round", x.all(2, 1), 7);
        due("13: LEAST, round", x.all(2, 2), 1);
        due("13: LEAST by the other ALL", x.all(3, 2), 15);
        x.set(3, 0, 1);
        due("13: NOUGHT", x.all(3, 0), 7);
        due("13: MOST", x.all(3, 1), 7);
        due("13: LEAST", x.all(3, 2), 1);
        x.set(3, 2, 60);
        due("13: not healed yet", x.all(59, 0), 7);
        due("13: healed", x.all(60, 2), 15);
        x.set(0, 0, 2);
        x.ask(0, 0, 70);
        due("13: ahead of the asking", x.all(69, 0), 15);
        due("13: on its day", x.all(70, 0), 14);
        due("13: behind it", x.all(99, 0), 14);
        due("13: the other ALL holds", x.all(70, 1), 14);
        x.set(0, 2, 80);
        due("13: healed behind an asking that counts", x.all(99, 0), 14);
        x.set(3, 2, -1);
        due("13: both ALLS are gone", x.all(70, 1), 0);
        x.set(2, 3, 1);
        due("13: by LAW 0", x.all(70, 1), 0);
        x.law(0, 1);
        due("13: GOOD holds itself alone", x.all(70, 1), 4);
        due("13: and comes first", x.all(70, 2), 4);
        due("13: and what leans on it", x.all(69, 2), 7);
        x.set(2, 0, 1);
        due("13: GOOD is no cure of NOUGHT", x.all(70, 1), 0);
        longChain();
    }

    private static void longChain() {
        FallWith x = withActs(12);
        for (int k = 0; k < 11; k++) {
            lean(x, k, String.valueOf((char) ('b' + k)));
        }
        due("13: MOST of a chain", x.all(99, 1), 4095);
        due("13: LEAST of a chain", x.all(99, 2), 4095);
        x.set(11, 0, 1);
        due("13: MOST of a chain that broke", x.all(99, 1), 0);
        due("13: LEAST of a chain that broke", x.all(99, 2), 0);
        x.set(0, 3, 1);
        x.law(0, 1);
        due("13: GOOD of the first", x.all(99, 1), 1);
        due("13: GOOD of the first", x.all(99, 2), 1);
    }

    private static void promise14() {
        FallWith x = withActs(4);
        due("14: UNKNOWN", x.why(4, 0), UNKNOWN);
        due("14: UNKNOWN ahead of OUTSIDE", x.why(-1, 100), UNKNOWN);
        due("14: day", x.why(0, 100), OUTSIDE);
        due("14: day", x.why(0, -1), OUTSIDE);
        lean(x, 3, "c");
        lean(x, 2, "b");
        due("14: stands", x.why(3, 3), 0);
        due("14: not done", x.why(3, 2), 1);
        x.set(1, 0, 1);
        due("14: NOUGHT", x.why(1, 3), 2);
        due("14: not done is ahead of NOUGHT", x.why(1, 0), 1);
        due("14: leans on NOUGHT", x.why(2, 3), 4);
        due("14: leans on that", x.why(3, 3), 4);
        x.set(1, 2, 50);
        due("14: not healed", x.why(1, 49), 2);
        due("14: healed", x.why(1, 50), 0);
        x.set(2, 0, 4);
        x.ask(2, 3, 60);
        due("14: ahead of the asking", x.why(2, 59), 0);
        due("14: asked", x.why(2, 60), 3);
        due("14: leans on it", x.why(3, 60), 4);
        x.set(1, 2, -1);
        due("14: asked is ahead of not held", x.why(2, 60), 3);
        x.law(0, 1);
        x.set(3, 3, 1);
        due("14: needs not to be held", x.why(3, 60), 0);
        x.set(2, 3, 1);
        due("14: asked all the same", x.why(2, 60), 3);
    }

    private static void promise15() {
        FallWith x = withActs(5);
        due("15: UNKNOWN", x.under(5), UNKNOWN);
        due("15: UNKNOWN", x.under(-1), UNKNOWN);
        due("15: none", x.under(0), 0);
        lean(x, 4, "d+l|c");
        lean(x, 3, "b|b");
        lean(x, 2, "c");
        lean(x, 1, "f");
        due("15: all below, but for those that there are not", x.under(4), 14);
        due("15: itself", x.under(2), 4);
        due("15: none that there is", x.under(1), 0);
        due("15: f comes", x.act(0, 0, 1, 0), 5);
        due("15: f is named", x.under(1), 32);
        lean(x, 5, "e");
        due("15: round", x.under(4), 62);
        due("15: round", x.under(1), 62);
        x.set(3, 0, 1);
        due("15: whatever stands", x.under(4), 62);
        FallWith y = withActs(12);
        for (int k = 0; k < 11; k++) {
            lean(y, k, String.valueOf((char) ('b' + k)));
        }
        due("15: a chain of twelve", y.under(0), 4094);
        FallWith z = withActs(3);
        lean(z, 2, "a");
        lean(z, 0, "b");
        due("15: by way of the first", z.under(2), 3);
    }

    private static void promise16() {
        FallWith x = withActs(6);
        x.set(0, 0, 2);
        due("16: act", x.fall(6, 0, 9, -2), UNKNOWN);
        due("16: who", x.fall(0, 4, 9, -2), UNKNOWN);
        due("16: UNKNOWN ahead of OUTSIDE", x.fall(0, -1, 100, -3), UNKNOWN);
        due("16: day", x.fall(0, 0, 100, 0), OUTSIDE);
        due("16: day", x.fall(0, 0, -1, 0), OUTSIDE);
        due("16: OUTSIDE ahead of NO", x.fall(0, 1, 100, 0), OUTSIDE);
        due("16: day ahead of a step that there is not", x.fall(0, 0, 100, -3), OUTSIDE);
        due("16: would not count", x.fall(0, 1, 9, 0), NO);
        due("16: would not count", x.fall(1, 1, 9, 50), NO);
        due("16: would not count, no step below", x.fall(0, 1, 9, -3), NO);
        due("16: would not count, no step below", x.fall(1, 0, 9, MIN_VALUE), NO);
        lean(x, 1, "a");
        lean(x, 2, "a");
        lean(x, 3, "b+c|e");
        lean(x, 4, "d");
        lean(x, 5, "c|f");
        due("16: all", x.fall(0, 0, 9, -2), 7);
        due("16: what holds round is left", x.all(9, 1), 63);
        x.set(4, 0, 1);
        due("16: steps", x.fall(0, 0, 9, -1), 3);
        due("16: first", x.fall(0, 0, 9, 0), 1);
        due("16: second", x.fall(0, 0, 9, 1), 6);
        due("16: third", x.fall(0, 0, 9, 2), 8);
        due("16: no fourth", x.fall(0, 0, 9, 3), NONE);
        due("16: far", x.fall(0, 0, 9, MAX_VALUE), NONE);
        due("16: no step below the first", x.fall(0, 0, 9, -3), NONE);
        due("16: far below", x.fall(0, 0, 9, MIN_VALUE), NONE);
        due("16: all", x.fall(0, 0, 9, -2), 15);
        due("16: on its own day", x.fall(0, 0, 0, -2), 1);
        due("16: nothing was asked", x.told(1), 0);
        x.law(0, 1);
        x.set(2, 3, 1);
        due("16: GOOD does not fall", x.fall(0, 0, 9, -2), 11);
        x.ask(0, 0, 8);
        due("16: did not stand", x.fall(0, 0, 9, -2), 0);
        due("16: no steps", x.fall(0, 0, 9, -1), 0);
        due("16: no first", x.fall(0, 0, 9, 0), NONE);
        due("16: no steps, none below", x.fall(0, 0, 9, -3), NONE);
        due("16: stood the day ahead", x.fall(0, 0, 7, 0), 1);
        longFall();
    }

    private static void longFall() {
        FallWith x = withActs(12);
        x.set(0, 0, 4);
        for (int k = 1; k < 12; k++) {
            lean(x, k, String.valueOf((char) ('a' + k - 1)));
        }
        for (int k = 0; k < 12; k++) {
            x.ask(1, 0, 0);
        }
        due("16: also if there is no room for askings", x.fall(0, 3, 99, -2), 4095);
        due("16: twelve steps", x.fall(0, 3, 99, -1), 12);
        due("16: the twelfth", x.fall(0, 3, 99, 11), 2048);
        due("16: no thirteenth", x.fall(0, 3, 99, 12), NONE);
    }

    private static void promise17() {
        FallWith x = new FallWith();
        x.act(10, 0, 1, 99);
        x.act(20, 1, 2, 33);
        x.act(30, 2, 0, 7);
        lean(x, 1, "a");
        lean(x, 2, "b");
        due("17: act", x.back(3, 0, 40, 0), LOST - 1);
        due("17: who", x.back(0, 4, 40, 0), LOST - 1);
        due("17: whom", x.back(0, 0, 40, 4), LOST - 1);
        due("17: whom", x.back(0, 0, 40, -1), LOST - 1);
        due("17: UNKNOWN ahead of OUTSIDE", x.back(0, 0, 100, 4), LOST - 1);
        due("17: day", x.back(0, 0, 100, 0), LOST - 2);
        due("17: day", x.back(0, 0, -1, 0), LOST - 2);
        due("17: would not count", x.back(0, 0, 40, 0), LOST - 5);
        x.set(0, 0, 3);
        due("17: not by the giver", x.back(0, 0, 40, 0), LOST - 5);
        // 99 + 29, 33 + 6, 7 + 0, each quotient cut by itself
        due("17: of 0", x.back(0, 1, 40, 0), 128 - 7);
        due("17: of 1", x.back(0, 1, 40, 1), 39 - 128);
        due("17: of 2", x.back(0, 1, 40, 2), 7 - 39);
        due("17: of 3", x.back(0, 1, 40, 3), 0);
        x.law(1, 9);
        // 99 + 792, 33 + 234, 7 + 43
        due("17: on the last day", x.back(0, 1, 99, 0), 891 - 50);
        due("17: on the last day", x.back(0, 1, 99, 1), 267 - 891);
        x.law(1, 0);
        due("17: no fruits", x.back(0, 1, 99, 0), 92);
        x.law(1, 9);
        due("17: no fruits on its day", x.back(0, 1, 10, 1), -99);
        x.set(1, 0, 1);
        due("17: what did not stand does not go back", x.back(0, 1, 40, 2), 0);
        x.ask(0, 1, 30);
        due("17: nothing falls", x.back(0, 1, 40, 0), 0);
    }

    private static void promise18() {
        FallWith x = new FallWith();
        x.act(10, 3, 1, 10);
        x.act(10, 2, 3, 50);
        due("18: UNKNOWN", x.wise(2, 10), UNKNOWN);
        due("18: UNKNOWN ahead of OUTSIDE", x.wise(-1, 100), UNKNOWN);
        due("18: day", x.wise(0, 100), OUTSIDE);
        due("18: day", x.wise(0, -1), OUTSIDE);
        due("18: no flaw", x.wise(0, 10), NONE);
        x.set(0, 0, 4);
        due("18: the giver has more", x.wise(0, 10), 3);
        x.set(0, 0, 3);
        due("18: the taker has less", x.wise(0, 10), NONE);
        x.set(0, 0, 2);
        due("18: by the giver", x.wise(0, 10), 3);
        due("18: ahead of its day", x.wise(0, 9), NONE);
        lean(x, 1, "a");
        due("18: the giver loses more", x.wise(0, 10), NONE);
        x.set(0, 0, 4);
        due("18: another one has more", x.wise(0, 10), 2);
        x.set(0, 0, 1);
        due("18: NOUGHT", x.wise(0, 10), NONE);
        x.set(0, 0, 4);
        x.ask(0, 0, 10);
        due("18: it fell already", x.wise(0, 10), NONE);
        FallWith y = new FallWith();
        y.act(5, 0, 1, 1);
        y.act(5, 1, 0, 1);
        y.set(0, 0, 4);
        due("18: of worth", y.wise(0, 5), 0);
        lean(y, 1, "a");
        due("18: as much as before is not more", y.wise(0, 5), NONE);
        FallWith z = withActs(1);
        z.act(1, 2, 1, 10);
        z.set(0, 0, 4);
        lean(z, 1, "a");
        due("18: the first of two", z.wise(0, 5), 0);
    }

    private static void promise19() {
        FallWith x = withActs(3);
        due("19: day", x.rest(-1, 0), OUTSIDE);
        due("19: day", x.rest(100, 0), OUTSIDE);
        due("19: what", x.rest(0, -1), OUTSIDE);
        due("19: what", x.rest(0, 2), OUTSIDE);
        due("19: nobody", x.rest(9, 0), 0);
        due("19: all stand", x.rest(9, 1), 7);
        x.set(0, 0, 4);
        x.set(1, 0, 4);
        due("19: two", x.rest(9, 0), 2);
        due("19: one stands", x.rest(9, 1), 4);
        due("19: ahead of the second", x.rest(0, 0), 1);
        lean(x, 1, "a");
        due("19: the first takes the second along", x.rest(9, 0), 1);
        due("19: one stands", x.rest(9, 1), 4);
        due("19: nothing was told", x.told(1), 0);
        due("19: nothing fell", x.all(9, 1), 7);
        opened();
        for (int k = 0; k < 12; k++) {
            x.ask(2, 0, 0);
        }
        due("19: also if there is no room for askings", x.rest(9, 0), 1);
        FallWith y = withActs(12);
        for (int k = 0; k < 12; k++) {
            y.set(k, 0, 2);
        }
        due("19: twelve", y.rest(99, 0), 12);
        due("19: none stands", y.rest(99, 1), 0);
    }

    /** An asking that pays only behind another one. */
    private static void opened() {
        FallWith x = new FallWith();
        x.act(1, 0, 1, 10);
        x.act(2, 1, 0, 40);
        x.set(0, 0, 2);
        x.set(1, 0, 2);
        lean(x, 1, "a");
        due("19: not at first", x.wise(0, 3), NONE);
        due("19: the second opens the way", x.rest(3, 0), 2);
        due("19: none stands", x.rest(3, 1), 0);
        x.ask(1, 1, 3);
        due("19: beside the one that was told", x.rest(3, 0), 1);
    }

    private static void promise20() {
        FallWith x = withActs(6);
        due("20: bits", x.heal(64, 9, 0), OUTSIDE);
        due("20: bits", x.heal(-1, 9, 0), OUTSIDE);
        due("20: bits", x.heal(MIN_VALUE, 9, 0), OUTSIDE);
        due("20: day", x.heal(0, 100, 0), OUTSIDE);
        due("20: day", x.heal(0, -1, 0), OUTSIDE);
        due("20: what", x.heal(0, 9, 2), OUTSIDE);
        due("20: what", x.heal(0, 9, -1), OUTSIDE);
        due("20: all stand", x.heal(63, 9, 0), 0);
        due("20: all stand", x.heal(63, 9, 1), 0);
        due("20: not done", x.heal(32, 4, 0), NO);
        due("20: OUTSIDE ahead of NO", x.heal(32, 4, 2), OUTSIDE);
        lean(x, 5, "a+b|c+d|e");
        x.set(0, 0, 1);
        x.set(1, 0, 4);
        x.ask(1, 3, 5);
        x.set(2, 0, 1);
        x.set(2, 2, 50);
        x.set(3, 0, 3);
        due("20: one is enough", x.heal(32, 9, 0), 0);
        x.set(4, 0, 1);
        due("20: one that was asked for needs no healing ahead of it", x.heal(32, 5, 0), 4);
        lean(x, 3, "c");
        due("20: healed later, healed from 0 on", x.heal(32, 9, 0), 4);
        due("20: by then it is healed", x.heal(32, 50, 0), 0);
        x.ask(3, 1, 4);
        due("20: the one act is fewest", x.heal(32, 9, 0), 16);
        due("20: of both", x.heal(32, 9, 1), 1);
        lean(x, 4, "l");
        due("20: the least of two sets", x.heal(32, 9, 0), 3);
        due("20: two", x.heal(32, 9, 1), 2);
        due("20: none for what is not there", x.heal(16, 9, 0), NO);
        due("20: another told one turns it", x.heal(36, 9, 0), 12);
        due("20: itself", x.heal(2, 9, 0), 2);
        x.set(4, 0, 0);
        due("20: no flaw to heal", x.heal(16, 9, 1), NO);
        lean(x, 4, "f");
        lean(x, 5, "e");
        due("20: round", x.heal(48, 9, 0), 0);
        due("20: nothing changed", x.all(9, 0), 48);
        x.set(5, 0, 1);
        due("20: round", x.heal(16, 9, 0), 32);
        notDoneYet();
        FallWith y = withActs(12);
        for (int k = 0; k < 12; k++) {
            y.set(k, 0, 1);
        }
        due("20: all twelve", y.heal(4095, 99, 1), 12);
        lean(y, 11, "a+b+c+d+e+f|g+h+i+j+k+f");
        due("20: of twelve", y.heal(2048, 99, 0), 2048 + 63);
        y.law(0, 1);
        y.set(11, 3, 1);
        due("20: GOOD", y.heal(2048, 99, 0), 2048);
    }

    /** Healing is no help for what was not done by then. */
    private static void notDoneYet() {
        FallWith x = new FallWith();
        x.act(50, 0, 1, 1);
        x.act(1, 0, 1, 1);
        x.act(1, 0, 1, 1);
        x.act(1, 0, 1, 1);
        for (int act = 0; act < 3; act++) {
            x.set(act, 0, 1);
        }
        lean(x, 3, "b+c|a");
        due("20: the first is not done yet", x.heal(1, 49, 0), NO);
        due("20: both others", x.heal(8, 49, 0), 6);
        due("20: the first alone", x.heal(8, 50, 0), 1);
        x.act(1, 0, 1, 1);
        x.act(1, 0, 1, 1);
        x.set(4, 0, 1);
        x.set(5, 0, 1);
        lean(x, 3, "e+f|b+c|a");
        due("20: the least of two, the first is not done yet", x.heal(8, 49, 0), 6);
        due("20: the first alone of three", x.heal(8, 50, 0), 1);
    }

    private static void promise21() {
        FallWith x = withActs(5);
        due("21: day", x.pillar(-1, 0), OUTSIDE);
        due("21: day", x.pillar(100, 0), OUTSIDE);
        due("21: what", x.pillar(0, -1), OUTSIDE);
        due("21: what", x.pillar(0, 2), OUTSIDE);
        due("21: the least of all", x.pillar(9, 0), 0);
        due("21: no others", x.pillar(9, 1), 0);
        lean(x, 0, "b|c");
        due("21: what two hold does not fall with one", x.pillar(9, 1), 0);
        lean(x, 4, "d");
        lean(x, 3, "c");
        due("21: the third", x.pillar(9, 0), 2);
        due("21: holds two", x.pillar(9, 1), 2);
        due("21: ahead of the fifth", x.pillar(3, 1), 1);
        x.set(1, 0, 1);
        due("21: now it holds three", x.pillar(9, 1), 3);
        lean(x, 2, "e");
        due("21: of several in a round the least", x.pillar(9, 0), 2);
        x.set(2, 0, 1);
        due("21: nothing stands", x.pillar(9, 0), NONE);
        due("21: nothing stands", x.pillar(9, 1), 0);
        x.law(0, 1);
        x.set(3, 3, 1);
        due("21: by the other LAW", x.pillar(9, 0), 3);
        due("21: by the other LAW", x.pillar(9, 1), 1);
    }

    private static void promise22() {
        FallWith x = withActs(3);
        due("22: act", x.hangs(3, 9, 0), UNKNOWN);
        due("22: UNKNOWN ahead of OUTSIDE", x.hangs(-1, 100, -1), UNKNOWN);
        due("22: day", x.hangs(0, 100, 0), OUTSIDE);
        due("22: day", x.hangs(0, -1, 0), OUTSIDE);
        due("22: bits", x.hangs(0, 9, 8), OUTSIDE);
        due("22: bits", x.hangs(0, 9, -1), OUTSIDE);
        due("22: bits", x.hangs(0, 9, MIN_VALUE), OUTSIDE);
        lean(x, 0, "b|c");
        lean(x, 1, "l");
        lean(x, 2, "l");
        due("22: by LAW 0 it does not matter", x.hangs(0, 9, 7), 0);
        x.law(0, 1);
        due("22: none is unknown", x.hangs(0, 9, 0), 0);
        due("22: itself", x.hangs(0, 9, 1), 1);
        due("22: one of two", x.hangs(0, 9, 2), 1);
        due("22: the others", x.hangs(1, 9, 5), 0);
        x.set(1, 3, 1);
        due("22: one is known to be GOOD", x.hangs(0, 9, 4), 2);
        due("22: one was thought to be GOOD", x.hangs(0, 9, 2), 1);
        due("22: all unknown", x.hangs(0, 9, 7), 1);
        x.set(0, 0, 1);
        due("22: not SOUND", x.hangs(0, 9, 7), 0);
        x.set(0, 0, 0);
        x.free(0);
        due("22: needs none", x.hangs(0, 9, 7), 2);
        due("22: nothing changed", x.all(9, 1), 3);
        x.law(0, 0);
        due("22: LAW 0 stands", x.hangs(0, 9, 7), 2);
        due("22: not done yet", x.hangs(2, 1, 7), 0);
    }

    private static void promise23() {
        FallWith x = withActs(3);
        due("23: UNKNOWN", x.safe(3), UNKNOWN);
        due("23: UNKNOWN", x.safe(-1), UNKNOWN);
        due("23: from its day on", x.safe(2), 2);
        lean(x, 2, "a|b");
        x.set(0, 0, 4);
        x.set(1, 0, 4);
        due("23: no one asking does it", x.safe(2), 2);
        due("23: of that itself one does", x.safe(0), NONE);
        x.set(0, 1, 20);
        x.set(1, 1, 30);
        due("23: till its time is out", x.safe(0), 21);
        due("23: the other one", x.safe(1), 32);
        x.ask(0, 0, 10);
        due("23: it fell", x.safe(0), NONE);
        due("23: the other one's time must be out", x.safe(2), 32);
        x.set(1, 2, 25);
        due("23: healed sooner", x.safe(2), 25);
        x.set(1, 2, 5);
        due("23: healed ahead of the asking, and till then the other one holds", x.safe(2), 2);
        x.set(2, 0, 3);
        x.set(2, 1, 96);
        due("23: the last day", x.safe(2), 99);
        x.set(2, 1, 97);
        due("23: never", x.safe(2), NONE);
        FallWith y = new FallWith();
        y.act(99, 0, 1, 1);
        due("23: on day 99", y.safe(0), 99);
        y.set(0, 0, 1);
        due("23: NOUGHT", y.safe(0), NONE);
        y.set(0, 2, 99);
        due("23: healed on the last day", y.safe(0), 99);
        FallWith z = withActs(2);
        z.set(0, 0, 1);
        z.set(0, 2, 40);
        lean(z, 1, "a");
        due("23: stands from 40 on", z.safe(1), 40);
        z.law(0, 1);
        z.set(1, 3, 1);
        due("23: GOOD", z.safe(1), 1);
    }

    private static void promise24() {
        FallWith x = withActs(4);
        due("24: day", x.beside(-1), OUTSIDE);
        due("24: day", x.beside(100), OUTSIDE);
        due("24: none", x.beside(9), 0);
        lean(x, 1, "l");
        lean(x, 2, "b");
        lean(x, 3, "l");
        due("24: none is GOOD", x.beside(9), 0);
        x.set(1, 3, 1);
        x.set(0, 3, 1);
        due("24: the GOOD one and what leans on it", x.beside(9), 6);
        due("24: on its day", x.beside(1), 2);
        due("24: ahead of it", x.beside(0), 0);
        x.law(0, 1);
        due("24: the same by LAW 1", x.beside(9), 6);
        due("24: LAW is left", x.told(3), 1);
        x.set(1, 0, 1);
        due("24: not SOUND", x.beside(9), 0);
    }

    private static void promise25() {
        FallWith x = withActs(12);
        int[] out = {-1, 5, 9, 22, MIN_VALUE, MAX_VALUE};
        for (int what : out) {
            due("25: what " + what, x.told(what), OUTSIDE);
        }
        due("25: ACTS", x.told(0), 12);
        lean(x, 0, "a|b|c");
        lean(x, 11, "a|b+d");
        due("25: of the first", x.told(10), 3);
        due("25: of the last", x.told(21), 2);
        due("25: of another", x.told(15), 0);
        x.ask(0, 0, 0);
        x.ask(0, 0, 0);
        x.say(33);
        x.law(0, 1);
        x.law(1, 7);
        due("25: ASKINGS", x.told(1), 2);
        due("25: signs", x.told(2), 1);
        due("25: LAW", x.told(3), 1);
        due("25: RATE", x.told(4), 7);
    }
}
