import java.nio.charset.StandardCharsets;

/** What the tests share: feeding texts, counting wrong answers, and ending with them. */
final class Kit {
    private static int calls = 0;
    private static int wrong = 0;
    private static String about = "";
    private static int callsAhead = 0;

    private Kit() {
    }

    static void due(String what, long got, long want) {
        calls++;
        if (got != want) {
            wrong++;
            System.out.println(about + what + " answered " + got + ", due is " + want);
        }
    }

    /** Names the sentence that the answers behind this are about; one without an answer would test nothing. */
    static void about(String sentence) {
        endSentence();
        about = sentence.isEmpty() ? "" : sentence + ": ";
        callsAhead = calls;
    }

    private static void endSentence() {
        if (!about.isEmpty() && calls == callsAhead) {
            due("the number of answers", 0, 1);
        }
    }

    static void due(String what, boolean got, boolean want) {
        due(what, got ? 1 : 0, want ? 1 : 0);
    }

    /** Puts a text on the tape, in place of what was there. */
    static void tape(BeeRegister x, String text) {
        byte[] bytes = text.getBytes(StandardCharsets.ISO_8859_1);
        x.end(0);
        for (int i = 0; i < bytes.length; i += 20) {
            x.feed(four(bytes, i), four(bytes, i + 4), four(bytes, i + 8), four(bytes, i + 12), four(bytes, i + 16));
        }
        x.end(bytes.length);
    }

    static int four(byte[] bytes, int from) {
        int number = 0;
        for (int i = from; i < from + 4; i++) {
            number = number << 8 | (i < bytes.length ? bytes[i] & 255 : 0);
        }
        return number;
    }

    static int map(BeeRegister x, String text) {
        tape(x, text);
        return x.map();
    }

    static int ask(BeeRegister x, int unit, String text) {
        tape(x, text);
        return x.ask(unit);
    }

    /** A register with the classes of a text, which must be right. */
    static BeeRegister mapped(String text) {
        BeeRegister x = new BeeRegister();
        if (map(x, text) == BeeRegister.NONE) {
            due("map() of " + text + " with fault " + x.fault(0) + " at " + x.fault(1), 0, 1);
        }
        return x;
    }

    /** A text of classes that is refused, with its fault and place. */
    static void faulty(String text, int fault, int place) {
        BeeRegister x = new BeeRegister();
        due("map() of " + text, map(x, text), BeeRegister.NONE);
        due("fault(0) of " + text, x.fault(0), fault);
        due("fault(1) of " + text, x.fault(1), place);
    }

    /** A text of classes that is refused; ^ stands ahead of the token with the fault. */
    static void refused(String marked, int fault) {
        faulty(marked.replace("^", ""), fault, marked.indexOf('^'));
    }

    static void accepted(String text, int classes) {
        BeeRegister x = new BeeRegister();
        due("map() of " + text, map(x, text), classes);
        due("fault(0) of " + text, x.fault(0), 0);
        due("fault(1) of " + text, x.fault(1), BeeRegister.NONE);
        due("count(0) of " + text, x.count(0), classes);
    }

    /** A question that is refused, with its fault and place. */
    static void faultyQuestion(BeeRegister x, int unit, String text, int fault, int place) {
        due("ask() of " + text, ask(x, unit, text), BeeRegister.NONE);
        due("fault(0) of " + text, x.fault(0), fault);
        due("fault(1) of " + text, x.fault(1), place);
    }

    /** A question that is refused; ^ stands ahead of the token with the fault. */
    static void refusedQuestion(BeeRegister x, int unit, String marked, int fault) {
        faultyQuestion(x, unit, marked.replace("^", ""), fault, marked.indexOf('^'));
    }

    /** A question with the keys that are told. */
    static void told(BeeRegister x, int unit, String text, int... keys) {
        due("ask() of " + text, ask(x, unit, text), keys.length);
        for (int i = 0; i < keys.length; i++) {
            due("found(" + i + ") of " + text, x.found(i), keys[i]);
        }
        due("found(" + keys.length + ") of " + text, x.found(keys.length), BeeRegister.NONE);
        due("fault(0) of " + text, x.fault(0), 0);
    }

    /** The i-th write of the latest writing. */
    static void wrote(BeeRegister x, int i, int how, int c, int key, int columns) {
        due("write(" + i + ", 0)", x.write(i, 0), how);
        due("write(" + i + ", 1)", x.write(i, 1), c);
        due("write(" + i + ", 2)", x.write(i, 2), key);
        due("write(" + i + ", 3)", x.write(i, 3), columns);
    }

    /** There is no i-th write of the latest writing. */
    static void noWrite(BeeRegister x, int i) {
        for (int what = 0; what < 4; what++) {
            due("write(" + i + ", " + what + ")", x.write(i, what), BeeRegister.NONE);
        }
    }

    /** An object's state; asking for it loads nothing. */
    static void state(BeeRegister x, int o, int state) {
        due("object(" + o + ", 0)", x.object(o, 0), state);
    }

    /** The latest writing's outcome. */
    static void came(BeeRegister x, int outcome, int c, int key, int member, int rule) {
        due("outcome(0)", x.outcome(0), outcome);
        due("outcome(1)", x.outcome(1), c);
        due("outcome(2)", x.outcome(2), key);
        due("outcome(3)", x.outcome(3), member);
        due("outcome(4)", x.outcome(4), rule);
    }

    static void finish() {
        about("");
        System.out.println(calls + " answers, " + wrong + " wrong");
        if (wrong != 0 || calls == 0) {
            System.exit(1);
        }
    }
}
