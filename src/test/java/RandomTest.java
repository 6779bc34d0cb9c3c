import java.nio.charset.StandardCharsets;
import java.util.ArrayList;
import java.util.List;
import java.util.Random;

/** Random runs, each with its own seed, on the class and on the model: every answer must be the same. */
public final class RandomTest {
    private final Random random;
    private final RandomText text;
    private final BeeRegister x = new BeeRegister();
    private final Model model = new Model();
    private final List<String> log = new ArrayList<>();
    private final int[] used = new int[4];
    private boolean wrong;

    static final long[] seen = new long[64];

    private RandomTest(long seed) {
        random = new Random(seed);
        text = new RandomText(random, seed % 10 == 0 ? 13 : 1 + (int) (seed % 5));
    }

    private void same(String call, long got, long want) {
        log.add(call + " -> " + want);
        if (got != want && !wrong) {
            wrong = true;
            for (String line : log) {
                System.out.println(line);
            }
            Kit.due(call, got, want);
        }
    }

    private void same(String call, boolean got, boolean want) {
        same(call, got ? 1 : 0, want ? 1 : 0);
    }

    private void tape(String s) {
        byte[] bytes = s.getBytes(StandardCharsets.ISO_8859_1);
        log.add("tape: " + s);
        for (int i = 0; i < bytes.length; i += 20) {
            int[] n = new int[5];
            for (int k = 0; k < 5; k++) {
                n[k] = Kit.four(bytes, i + 4 * k);
            }
            same("feed", x.feed(n[0], n[1], n[2], n[3], n[4]), model.feed(n[0], n[1], n[2], n[3], n[4]));
        }
        same("end(" + bytes.length + ")", x.end(bytes.length), model.end(bytes.length));
    }

    private void map(String s) {
        tape(s);
        same("map()", x.map(), model.map());
        sameFault();
        for (int c = -1; c < 13; c++) {
            for (int what = -1; what < 5; what++) {
                same("look(" + c + ", " + what + ")", x.look(c, what), model.look(c, what));
            }
            for (int m = -1; m < 17; m++) {
                for (int what = -1; what < 5; what++) {
                    same("member(" + c + ", " + m + ", " + what + ")", x.member(c, m, what),
                            model.member(c, m, what));
                }
            }
        }
        seen[10 + model.fault(0)]++;
    }

    private void sameFault() {
        for (int what = -1; what < 3; what++) {
            same("fault(" + what + ")", x.fault(what), model.fault(what));
        }
    }

    private int unit() {
        return random.nextInt(50) == 0 ? random.nextInt(7) - 2 : random.nextInt(random.nextInt(3) == 0 ? 4 : 2);
    }

    private int cls() {
        return random.nextInt(60) == 0 ? random.nextInt(15) - 1 : random.nextInt(text.classes.size());
    }

    private int mem() {
        return random.nextInt(60) == 0 ? random.nextInt(20) - 2 : random.nextInt(6);
    }

    private int objectIn(int unit) {
        int u = unit < 0 || unit > 3 ? 0 : unit;
        if (random.nextInt(60) == 0) {
            return random.nextInt(500) - 20;
        }
        int many = used[u];
        return 100 * u + (many == 0 ? 0 : random.nextInt(many + (random.nextInt(20) == 0 ? 1 : 0)));
    }

    private int some() {
        switch (random.nextInt(12)) {
            case 0:
                return random.nextInt();
            case 1:
                return random.nextBoolean() ? Integer.MAX_VALUE : Integer.MIN_VALUE;
            case 2:
                return random.nextInt(260) - 130;
            default:
                return random.nextInt(4);
        }
    }

    private boolean isLive(int o) {
        return model.object(o, 0) == 1 || model.object(o, 0) == 2;
    }

    /** A member of a class that is of a sort, if one is found soon. */
    private int memberOf(int c, int sort, int otherwise) {
        for (int tries = 0; tries < 20; tries++) {
            int m = random.nextInt(16);
            if (model.member(c, m, 0) == sort) {
                return m;
            }
        }
        return otherwise;
    }

    /** An object of a unit that is of a class, if one is found soon. */
    private int objectFor(int u, int c, int otherwise) {
        for (int tries = 0; tries < 10; tries++) {
            int o = objectIn(u);
            if (isLive(o) && c >= 0 && c < text.classes.size() && text.is(model.object(o, 2), c)) {
                return o;
            }
        }
        return otherwise;
    }

    private void came(int number) {
        if (number >= 0) {
            used[number / 100] = Math.max(used[number / 100], number % 100 + 1);
        }
    }

    private void call() {
        int u = unit();
        int o = objectIn(u);
        int m = mem();
        switch (random.nextInt(27)) {
            case 0:
                closeAndOpen(-1);
                break;
            case 1:
                if (random.nextInt(4) == 0) {
                    int how = random.nextInt(20) == 0 ? 2 : random.nextInt(2);
                    same("close(" + u + ", " + how + ")", x.close(u, how), model.close(u, how));
                    sameWriting();
                }
                break;
            case 2:
            case 3:
                same("flush(" + u + ")", x.flush(u), model.flush(u));
                sameWriting();
                if (model.outcome(0) != 0 && random.nextBoolean()) {
                    closeAndOpen(u);
                }
                break;
            case 4:
            case 5:
            case 6:
            case 7:
                int c = cls();
                int number = model.make(u, c);
                came(number);
                same("make(" + u + ", " + c + ")", x.make(u, c), number);
                break;
            case 8:
            case 9:
                int k = cls();
                int key = random.nextInt(12);
                int at = model.find(u, k, key);
                came(at);
                same("find(" + u + ", " + k + ", " + key + ")", x.find(u, k, key), at);
                break;
            case 10:
                int what = random.nextInt(6) - 1;
                same("object(" + o + ", " + what + ")", x.object(o, what), model.object(o, what));
                break;
            case 11:
            case 12:
                long v = model.value(o, m);
                same("value(" + o + ", " + m + ")", x.value(o, m), v);
                break;
            case 13:
            case 14:
                int put = some();
                if (isLive(o)) {
                    m = memberOf(model.object(o, 2), random.nextInt(4), m);
                }
                same("put(" + o + ", " + m + ", " + put + ")", x.put(o, m, put), model.put(o, m, put));
                break;
            case 15:
            case 16:
            case 17:
            case 18:
                int to = random.nextInt(12) == 0 ? -1 - random.nextInt(20) / 19 : objectIn(u);
                if (isLive(o) && random.nextInt(4) > 0) {
                    m = memberOf(model.object(o, 2), 4, m);
                    to = random.nextInt(10) == 0 ? -1 : objectFor(u, model.member(model.object(o, 2), m, 1), to);
                }
                same("link(" + o + ", " + m + ", " + to + ")", x.link(o, m, to), model.link(o, m, to));
                break;
            case 19:
                if (isLive(o)) {
                    m = memberOf(model.object(o, 2), 5, m);
                }
                same("size(" + o + ", " + m + ")", x.size(o, m), model.size(o, m));
                int i = random.nextInt(5) - 1;
                int met = model.item(o, m, i);
                same("item(" + o + ", " + m + ", " + i + ")", x.item(o, m, i), met);
                break;
            case 20:
                if (random.nextInt(3) == 0) {
                    same("drop(" + o + ")", x.drop(o), model.drop(o));
                }
                break;
            case 21:
                same("loads(" + u + ")", x.loads(u), model.loads(u));
                break;
            case 22:
                if (random.nextInt(3) == 0) {
                    int oc = cls();
                    int okey = random.nextInt(10);
                    int ov = some();
                    same("other(" + oc + ", " + okey + ", " + m + ", " + ov + ")", x.other(oc, okey, m, ov),
                            model.other(oc, okey, m, ov));
                }
                break;
            case 23:
                sameCells(cls(), random.nextInt(10));
                break;
            case 24:
            case 25:
                ask(u);
                break;
            default:
                int n = random.nextInt(5) - 1;
                same("count(" + n + ")", x.count(n), model.count(n));
        }
        for (int i = 0; i < 60 && u >= 0 && u < 4; i++) {
            int state = model.object(100 * u + i, 0);
            if (state == -1) {
                break;
            }
            came(100 * u + i);
            same("object(" + (100 * u + i) + ", 0)", x.object(100 * u + i, 0), state);
            same("object(" + (100 * u + i) + ", 1)", x.object(100 * u + i, 1), model.object(100 * u + i, 1));
        }
    }

    /** What a rule keeps from being written would keep all behind it, too. */
    private void closeAndOpen(int u) {
        same("close(" + u + ", 0)", x.close(u, 0), model.close(u, 0));
        int opened = model.unit();
        same("unit()", x.unit(), opened);
        if (opened >= 0) {
            used[opened] = 0;
        }
    }

    private void ask(int u) {
        String question = text.question();
        tape(random.nextInt(6) == 0 ? text.spoiled(question) : question);
        int told = model.ask(u);
        same("ask(" + u + ")", x.ask(u), told);
        sameFault();
        sameWriting();
        seen[20 + model.fault(0)]++;
        if (told > 0) {
            seen[30]++;
        }
        for (int i = -1; i < 62; i++) {
            same("found(" + i + ")", x.found(i), model.found(i));
        }
        same("end(0)", x.end(0), model.end(0));
    }

    private void sameWriting() {
        seen[model.outcome(0)]++;
        for (int what = -1; what < 6; what++) {
            same("outcome(" + what + ")", x.outcome(what), model.outcome(what));
        }
        for (int i = -1; i < 121; i++) {
            for (int what = -1; what < 5; what++) {
                same("write(" + i + ", " + what + ")", x.write(i, what), model.write(i, what));
            }
            if (model.write(i, 0) >= 0) {
                seen[40 + model.write(i, 0)]++;
            } else if (i >= 0) {
                break;
            }
        }
        same("count(2)", x.count(2), model.count(2));
    }

    private void sameCells(int c, int key) {
        for (int column = -1; column < 20; column++) {
            same("cell(" + c + ", " + key + ", " + column + ")", x.cell(c, key, column), model.cell(c, key, column));
        }
    }

    private void run() {
        for (int i = random.nextInt(3); i > 0; i--) {
            String told = text.text();
            for (int n = random.nextInt(3); n >= 0; n--) {
                told = text.spoiled(told);
            }
            map(told);
        }
        map(text.text());
        log.clear();
        log.add("text: " + text.text());
        for (int i = 0; i < 3 && !wrong; i++) {
            int opened = model.unit();
            same("unit()", x.unit(), opened);
        }
        for (int i = 0; i < 400 && !wrong; i++) {
            call();
        }
        for (int c = 0; c < text.classes.size() && !wrong; c++) {
            for (int key = 0; key < 30; key++) {
                sameCells(c, key);
            }
        }
    }

    public static void main(String[] args) {
        int runs = args.length > 0 ? Integer.parseInt(args[0]) : 1500;
        int from = args.length > 1 ? Integer.parseInt(args[1]) : 0;
        for (int seed = from; seed < from + runs; seed++) {
            RandomTest test = new RandomTest(seed);
            test.run();
            Kit.due("run " + seed, test.wrong, false);
            if (test.wrong) {
                System.out.println("seed " + seed);
                break;
            }
        }
        if (args.length > 0) {
            System.out.println(java.util.Arrays.toString(seen));
        }
        Kit.finish();
    }
}
