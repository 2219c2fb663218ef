/** Counts answers that are as due and prints those that are not. */
final class Check {
    private static int passed;
    private static int failed;

    private Check() {
    }

    static void is(String what, long got, long due) {
        if (got == due) {
            passed++;
        } else {
            failed++;
            System.out.println(what + " answered " + got + ", due is " + due);
        }
    }

    static void holds(String what, boolean it) {
        is(what, it ? 1 : 0, 1);
    }

    static void type(NeedleHands x, String text) {
        for (int i = 0; i < text.length(); i++) {
            x.type(text.charAt(i));
        }
    }

    /** What shop() answers to a text on an object whose text is emptied first. */
    static int shop(NeedleHands x, String text) {
        x.clear();
        type(x, text);
        return x.shop();
    }

    static NeedleHands told(String text) {
        NeedleHands x = new NeedleHands();
        int items = shop(x, text);
        holds("the text " + text + " can be read", items >= 0);
        return x;
    }

    static boolean anyFailed() {
        return failed > 0;
    }

    static void end(String name) {
        System.out.println(name + ": " + passed + " answers as due, " + failed + " not");
        if (failed > 0) {
            System.exit(1);
        }
    }
}
