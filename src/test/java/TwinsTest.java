/** The twins that the tests of boundary cases lean on see every change, and see none where there is none. */
public final class TwinsTest {
    private static final Due DUE = new Due();

    public static void main(String[] args) {
        seen("act", Stories::none, x -> x.act(0, 0, 1, 0));
        seen("act", Stories::almost, x -> x.act(99, 3, 2, 99));
        for (int act = 0; act < 5; act++) {
            int one = act;
            seen("FLAW", Stories::some, x -> x.set(one, 0, one == 2 ? 2 : 1));
            seen("YEARS", Stories::some, x -> x.set(one, 1, 98));
            seen("HEALED", Stories::some, x -> x.set(one, 2, 98));
            seen("GOOD", Stories::some, x -> x.set(one, 3, one == 3 ? 0 : 1));
            seen("leans", Stories::ready, x -> x.leans(one));
        }
        seen("LAW", Stories::some, x -> x.law(0, 0));
        seen("RATE", Stories::some, x -> x.law(1, 8));
        seen("say", Stories::none, x -> x.say('!'));
        seen("say", Stories::almost, x -> x.say('+'));
        seen("wipe", Stories::some, FallWith::wipe);
        seen("wipe", Stories::full, FallWith::wipe);
        seen("free", Stories::some, x -> x.free(3));
        for (int who = 0; who < 4; who++) {
            int one = who;
            seen("ask", Stories::some, x -> x.ask(4, one, 0));
            seen("ask", Stories::almost, x -> x.ask(10, one, 99));
        }
        seen("drop", Stories::some, FallWith::drop);
        seen("drop", Stories::full, FallWith::drop);
        for (int k = 1; k < 4; k++) {
            int one = k;
            seen("another WHO", Stories::some, x -> again(x, 3, one, 99));
            seen("another ACT", Stories::full, x -> again(x, one, 3, 41));
        }
        seen("another DAY", Stories::full, x -> again(x, 11, 3, 42));
        DUE.holds("the same asking again is no change", Twins.alike(Stories::some, x -> again(x, 3, 0, 99)));
        DUE.holds("told is no change", Twins.alike(Stories::full, x -> x.told(0)));
        DUE.close();
    }

    private static int again(FallWith x, int act, int who, int day) {
        x.drop();
        return x.ask(act, who, day);
    }

    private static void seen(String change, Stories.Story story, Twins.Call call) {
        DUE.holds("the twins see: " + change, !Twins.alike(story, call));
    }
}
