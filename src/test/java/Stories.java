/** Calls that bring a new object to a state from which the boundary cases are looked at. */
final class Stories {
    interface Story {
        void tell(FallWith x);
    }

    private Stories() { }

    static FallWith after(Story story) {
        FallWith x = new FallWith();
        story.tell(x);
        return x;
    }

    static void say(FallWith x, String signs) {
        for (int k = 0; k < signs.length(); k++) {
            x.say(signs.charAt(k));
        }
    }

    static void lean(FallWith x, int act, String text) {
        x.wipe();
        say(x, text);
        x.leans(act);
    }

    /** So many acts of DAY 0 from WHO 0 to WHO 1, worth 10 each. */
    static FallWith withActs(int n) {
        FallWith x = new FallWith();
        for (int k = 0; k < n; k++) {
            x.act(0, 0, 1, 10);
        }
        return x;
    }

    /** Each of so many acts leans on the one ahead of it. */
    static FallWith chain(int n) {
        FallWith x = withActs(n);
        for (int k = 1; k < n; k++) {
            lean(x, k, letter(k - 1));
        }
        return x;
    }

    static String letter(int act) {
        return String.valueOf((char) ('a' + act));
    }

    static void none(FallWith x) { }

    /** Five acts, some flawed, leaning and asked for; LAW 1; two signs to which one more must come. */
    static void some(FallWith x) {
        x.act(0, 0, 1, 50);
        x.act(9, 1, 2, 99);
        x.act(20, 2, 3, 5);
        x.act(40, 3, 0, 7);
        x.act(99, 0, 2, 33);
        lean(x, 1, "a");
        lean(x, 2, "b|a");
        lean(x, 3, "b+c|l|d");
        x.set(0, 0, 4);
        x.set(0, 1, 60);
        x.set(1, 0, 2);
        x.set(2, 0, 1);
        x.set(2, 2, 30);
        x.set(3, 0, 3);
        x.set(3, 3, 1);
        x.law(0, 1);
        x.law(1, 7);
        x.ask(0, 3, 61);
        x.ask(1, 1, 50);
        x.ask(3, 0, 99);
        say(x, "a|");
    }

    /** As some, with signs that have no fault. */
    static void ready(FallWith x) {
        some(x);
        say(x, "b+l");
    }

    /** Room for one act, one asking and one sign more. */
    static void almost(FallWith x) {
        many(x, 11);
        say(x, "a+b|".repeat(9) + "c+d");
    }

    /** Twelve acts, twelve askings, forty signs. */
    static void full(FallWith x) {
        many(x, 12);
        say(x, "a+b|".repeat(9) + "c+d|");
    }

    /** Twelve acts, but room for askings and signs. */
    static void fullOfActs(FallWith x) {
        some(x);
        for (int k = 5; k < 12; k++) {
            x.act(30, 2, 1, 20);
        }
    }

    /** Twelve askings, but room for acts and signs. */
    static void fullOfAskings(FallWith x) {
        some(x);
        for (int k = 3; k < 12; k++) {
            x.ask(1, 2, 35);
        }
    }

    /** Forty signs, but room for acts and askings. */
    static void fullOfSigns(FallWith x) {
        some(x);
        for (int k = 2; k < 40; k++) {
            x.say('a');
        }
    }

    private static void many(FallWith x, int n) {
        for (int k = 0; k < n; k++) {
            x.act(k * 3, k % 4, (k + 1) % 4, 10 + k);
        }
        for (int k = 1; k < n; k += 2) {
            lean(x, k, letter(k - 1));
        }
        for (int k = 0; k < n; k++) {
            x.set(k, 0, k % 5);
            x.ask(k, k % 4, 30 + k);
        }
    }
}
