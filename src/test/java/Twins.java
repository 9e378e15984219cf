import java.util.ArrayList;
import java.util.List;

/** Two objects of one story, of which one hears a call more: whatever is asked behind it, they answer alike. */
final class Twins {
    interface Call {
        int on(FallWith x);
    }

    /** Each of them stays, with the story, below the 512 calls that an object is used for. */
    private interface Probe {
        void ask(FallWith x, List<Integer> answers);
    }

    private static final Probe[] PROBES = {Twins::askStands, Twins::askFalls, Twins::askKept, Twins::askActs, Twins::askAskings};
    private static final int[] DAYS = {0, 9, 40, 61, 99};

    private Twins() { }

    /** Whether nothing that can be asked for tells that the call was made. */
    static boolean alike(Stories.Story story, Call call) {
        for (Probe probe : PROBES) {
            FallWith one = Stories.after(story);
            call.on(one);
            if (!answers(probe, one).equals(answers(probe, Stories.after(story)))) {
                return false;
            }
        }
        return true;
    }

    private static List<Integer> answers(Probe probe, FallWith x) {
        List<Integer> answers = new ArrayList<>();
        probe.ask(x, answers);
        return answers;
    }

    private static void askStands(FallWith x, List<Integer> a) {
        for (int what = 0; what <= 21; what++) {
            a.add(x.told(what));
        }
        a.add(x.fault());
        for (int k = 0; k < 12; k++) {
            a.add(x.counts(k));
            a.add(x.under(k));
            a.add(x.safe(k));
        }
        for (int day : DAYS) {
            a.add(x.all(day, 0));
            a.add(x.all(day, 1));
            a.add(x.all(day, 2));
            a.add(x.beside(day));
            a.add(x.pillar(day, 0));
            a.add(x.pillar(day, 1));
            a.add(x.rest(day, 0));
            a.add(x.rest(day, 1));
            for (int act = 0; act < 12; act++) {
                a.add(x.why(act, day));
                a.add(x.wise(act, day));
            }
        }
    }

    private static void askFalls(FallWith x, List<Integer> a) {
        for (int act = 0; act < 12; act++) {
            for (int who = 0; who < 4; who++) {
                a.add(x.fall(act, who, 45, -2));
                a.add(x.back(act, who, 45, who));
            }
            a.add(x.fall(act, act % 4, 45, -1));
            a.add(x.fall(act, act % 4, 45, 0));
            a.add(x.fall(act, act % 4, 45, 1));
            a.add(x.hangs(act, 45, 0));
            a.add(x.hangs(act, 45, (1 << x.told(0)) - 1));
            a.add(x.heal(1 << act, 45, 0));
        }
    }

    /** Looks at what is kept by putting something else in its place; the signs come to light as a text. */
    private static void askKept(FallWith x, List<Integer> a) {
        for (int act = 0; act < 12; act++) {
            for (int what = 0; what < 4; what++) {
                a.add(x.set(act, what, what == 1 ? 99 : 0));
            }
            a.add(x.free(act));
        }
        a.add(x.law(0, 0));
        a.add(x.law(1, 1));
        a.add(x.leans(0));
        a.add(x.told(10));
        a.add(x.under(0));
        a.add(x.all(99, 1));
        a.add(x.say('a'));
        a.add(x.wipe());
        for (int k = 0; k < 13; k++) {
            a.add(x.drop());
        }
        a.add(x.act(0, 0, 1, 0));
        a.add(x.ask(0, 0, 0));
    }

    /** With neither text nor asking each act shows its DAY, and by what goes back its GIVER, TAKER and WORTH. */
    private static void askActs(FallWith x, List<Integer> a) {
        for (int k = 0; k < 12; k++) {
            a.add(x.drop());
        }
        for (int act = 0; act < 12; act++) {
            x.free(act);
            x.set(act, 0, 4);
            x.set(act, 1, 99);
            x.set(act, 2, -1);
            for (int whom = 0; whom < 4; whom++) {
                a.add(x.back(act, 0, 99, whom));
            }
        }
        for (int day = 0; day < 100; day++) {
            a.add(x.all(day, 0));
        }
    }

    /** With other flaws and other days of healing each asking shows its WHO, ACT and DAY. */
    private static void askAskings(FallWith x, List<Integer> a) {
        int[] healed = {-1, 31, 36, 42, 51, 62};
        for (int k = 0; k < healed.length; k++) {
            for (int act = 0; act < 12; act++) {
                x.set(act, 0, 2 + k % 3);
                x.set(act, 2, healed[k]);
            }
            for (int asking = 0; asking < 12; asking++) {
                a.add(x.counts(asking));
            }
        }
        for (int day : DAYS) {
            a.add(x.all(day, 0));
        }
    }
}
