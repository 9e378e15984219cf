import java.util.Random;

/** Long runs of calls drawn by a fixed seed, each answer compared with that of the model. */
public final class ModelTest {
    private static final Due DUE = new Due();
    private final Random random;
    private final FallWith x = new FallWith();
    private final Model m = new Model();
    private final int mostActs;
    private final int days;
    private final int oddOneIn;
    private int made = 0;

    private ModelTest(long seed, int mostActs, int days, int oddOneIn) {
        this.random = new Random(seed);
        this.mostActs = mostActs;
        this.days = days;
        this.oddOneIn = oddOneIn;
    }

    public static void main(String[] args) {
        for (int seed = 0; seed < 2000; seed++) {
            new ModelTest(seed, 2 + seed % 6, seed % 3 == 0 ? 99 : 12, 40).run(200, seed % 2 == 0);
        }
        for (int seed = 2000; seed < 2040; seed++) {
            new ModelTest(seed, 9, 20, 40).run(120, true);
        }
        for (int seed = 2040; seed < 2060; seed++) {
            new ModelTest(seed, 12, 30, 40).run(120, true);
        }
        // So many odd numbers that calls with two or three of them come too: which refusal is the first.
        for (int seed = 2060; seed < 3060; seed++) {
            new ModelTest(seed, 2 + seed % 5, 99, 3).run(250, seed % 2 == 0);
        }
        DUE.close();
    }

    private void run(int calls, boolean prepared) {
        if (prepared) {
            prepare();
        }
        for (int k = 0; k < mostActs * 2 && isRoom(); k++) {
            tell();
        }
        for (int k = 0; k < calls && isRoom(); k++) {
            if (random.nextInt(3) == 0) {
                tell();
            } else {
                question();
            }
        }
        for (int what = -1; what < 23; what++) {
            same("told", x.told(what), m.told(what), what);
        }
    }

    /** Begins with many flawed acts that lean on one another, so that much falls and much is to heal. */
    private void prepare() {
        for (int k = 0; k < mostActs * 2 && m.acts.size() < mostActs; k++) {
            tellAct();
        }
        for (int act = 0; act < m.acts.size() && isRoom(); act++) {
            int flaw = random.nextInt(5);
            same("set", x.set(act, 0, flaw), m.set(act, 0, flaw), act, 0, flaw);
            if (random.nextInt(3) != 0) {
                tellText();
            }
            if (random.nextInt(3) == 0) {
                tellAsking();
            }
        }
    }

    /** An object is used for at most 512 calls; the longest text and what is told at the end must still come. */
    private boolean isRoom() {
        return made < 512 - 72;
    }

    private void same(String call, int got, int want, int... args) {
        made++;
        StringBuilder b = new StringBuilder(call).append('(');
        for (int a : args) {
            b.append(a).append(' ');
        }
        DUE.is(b.append(')').toString(), got, want);
    }

    /** Mostly a number that fits, now and then one beside its ends. */
    private int about(int least, int greatest) {
        if (random.nextInt(oddOneIn) == 0) {
            int[] odd = {least - 1, greatest + 1, Integer.MIN_VALUE, Integer.MAX_VALUE, -3, least + 256, greatest - 256, 65536};
            return odd[random.nextInt(odd.length)];
        }
        return least + random.nextInt(greatest - least + 1);
    }

    private int anAct() {
        return about(0, Math.max(0, m.acts.size() - 1));
    }

    /** An act that somebody may ask for, if a few draws find one. */
    private int anAskable() {
        int act = anAct();
        for (int k = 0; k < 5 && isAct(act) && m.acts.get(act).flaw < 2; k++) {
            act = anAct();
        }
        return act;
    }

    private boolean isAct(int act) {
        return act >= 0 && act < m.acts.size();
    }

    /** Mostly one whom the flaw of the act lets ask. */
    private int asker(int act) {
        if (!isAct(act) || random.nextInt(5) == 0) {
            return about(0, 3);
        }
        Model.Act a = m.acts.get(act);
        return a.flaw == 2 ? a.giver : a.flaw == 3 ? a.taker : about(0, 3);
    }

    private int aDay() {
        return random.nextInt(20) == 0 ? about(0, 99) : about(0, days);
    }

    private int someActs() {
        int bits = random.nextInt(1 << m.acts.size());
        return random.nextInt(3) == 0 ? bits & random.nextInt(1 << m.acts.size()) : about(bits, bits);
    }

    private void tell() {
        switch (random.nextInt(9)) {
            case 0, 1 -> tellAct();
            case 2, 3 -> tellText();
            case 4, 5 -> tellSetting();
            case 6 -> tellAsking();
            case 7 -> tellLaw();
            default -> tellSigns();
        }
    }

    private void tellAct() {
        if (m.acts.size() >= mostActs && mostActs < 12) {
            return;
        }
        int day = random.nextInt(2) == 0 ? about(0, days / 3) : aDay();
        int giver = about(0, 3);
        int taker = random.nextInt(3) == 0 ? about(0, 3) : giver + 1 & 3;
        int worth = about(0, 99);
        same("act", x.act(day, giver, taker, worth), m.act(day, giver, taker, worth), day, giver, taker, worth);
    }

    private void tellText() {
        same("wipe", x.wipe(), m.wipe());
        int letters = 1 + random.nextInt(random.nextInt(8) == 0 ? 21 : 4);
        for (int k = 0; k < letters; k++) {
            say('a' + random.nextInt(random.nextInt(20) == 0 ? 13 : mostActs));
            if (k + 1 < letters) {
                say(random.nextInt(2) == 0 ? '+' : '|');
            }
        }
        same("fault", x.fault(), m.fault());
        int act = anAct();
        same("leans", x.leans(act), m.leans(act), act);
    }

    private void say(int sign) {
        same("say", x.say(sign), m.say(sign), sign);
    }

    private void tellSigns() {
        if (random.nextInt(4) == 0) {
            int act = anAct();
            same("free", x.free(act), m.free(act), act);
            return;
        }
        String likely = "a+b|cl";
        for (int k = 0; k < 3; k++) {
            say(random.nextInt(8) == 0 ? about(33, 126) : likely.charAt(random.nextInt(likely.length())));
            same("fault", x.fault(), m.fault());
        }
    }

    private void tellSetting() {
        int act = anAct();
        int what = about(0, 3);
        int v = switch (what) {
            case 0 -> about(0, 4);
            case 1 -> about(0, random.nextInt(2) == 0 ? 99 : days / 2);
            case 2 -> random.nextInt(3) != 0 ? -1 : about(-1, days);
            default -> about(0, 1);
        };
        same("set", x.set(act, what, v), m.set(act, what, v), act, what, v);
    }

    private void tellAsking() {
        if (random.nextInt(3) == 0) {
            same("drop", x.drop(), m.drop());
            return;
        }
        int act = anAskable();
        int who = asker(act);
        int day = aDay();
        same("ask", x.ask(act, who, day), m.ask(act, who, day), act, who, day);
    }

    private void tellLaw() {
        int which = about(0, 1);
        int v = about(0, which == 0 ? 1 : 9);
        same("law", x.law(which, v), m.law(which, v), which, v);
    }

    private void question() {
        int act = random.nextInt(2) == 0 ? anAskable() : anAct();
        int day = aDay();
        int who = asker(act);
        int what = about(0, 1);
        int bits = someActs();
        switch (random.nextInt(13)) {
            case 0 -> {
                int how = about(0, 2);
                same("all", x.all(day, how), m.all(day, how), day, how);
            }
            case 1 -> same("why", x.why(act, day), m.why(act, day), act, day);
            case 2 -> same("under", x.under(act), m.under(act), act);
            case 3 -> {
                int i = about(-2, 3);
                same("fall", x.fall(act, who, day, i), m.fall(act, who, day, i), act, who, day, i);
            }
            case 4 -> {
                int whom = about(0, 3);
                same("back", x.back(act, who, day, whom), m.back(act, who, day, whom), act, who, day, whom);
            }
            case 5 -> same("wise", x.wise(act, day), m.wise(act, day), act, day);
            case 6 -> same("rest", x.rest(day, what), m.rest(day, what), day, what);
            case 7 -> same("heal", x.heal(bits, day, what), m.heal(bits, day, what), bits, day, what);
            case 8 -> same("pillar", x.pillar(day, what), m.pillar(day, what), day, what);
            case 9 -> same("hangs", x.hangs(act, day, bits), m.hangs(act, day, bits), act, day, bits);
            case 10 -> same("safe", x.safe(act), m.safe(act), act);
            case 11 -> same("beside", x.beside(day), m.beside(day), day);
            default -> {
                int asking = about(0, Math.max(0, m.askings.size() - 1));
                same("counts", x.counts(asking), m.counts(asking), asking);
            }
        }
    }
}
