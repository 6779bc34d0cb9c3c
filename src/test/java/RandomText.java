import java.util.ArrayList;
import java.util.List;
import java.util.Random;

/** Makes texts of classes and questions, and spoils them. */
final class RandomText {
    private static final String[] SCRAPS = {"class", "of", "way", "one", "joined", "own", "to", "list", "by", "must",
        "owned", "unique", "whole", "small", "flag", "hook", "insert", "change", "where", "or", "and", "not", "empty",
        "{", "}", "(", ")", ":", ";", ",", ".", "=", "<", ">", "+", "-", "C0", "C1", "m0", "m1", "7", "123456",
        "1234567", "abcdefgh", "abcdefghi", "a1", "1a", "_", "\u00e9", "\t", "\n", "\r", "\u0000", "n0", "n1"};

    static final class Told {
        String name;
        int parent = -1;
        String way = "";
        final List<String> parts = new ArrayList<>();
        final List<String> members = new ArrayList<>();
        final List<String> types = new ArrayList<>();
        final List<Integer> targets = new ArrayList<>();
        final List<Integer> names = new ArrayList<>();
    }

    final Random random;
    final List<Told> classes = new ArrayList<>();
    private final int mustPercent;
    private final int uniquePercent;
    private int nextMember;

    RandomText(Random random, int most) {
        this.random = random;
        mustPercent = List.of(0, 5, 20, 60).get(random.nextInt(4));
        uniquePercent = List.of(0, 0, 5, 20).get(random.nextInt(4));
        int total = 1 + random.nextInt(most);
        for (int i = 0; i < total; i++) {
            Told t = new Told();
            t.name = "C" + i;
            if (i > 0 && chance(45)) {
                t.parent = random.nextInt(i);
            } else if (chance(70)) {
                t.way = List.of("way one ", "way joined ", "way own ").get(random.nextInt(3));
            }
            classes.add(t);
        }
        for (int c = 0; c < total; c++) {
            int members = 1 + random.nextInt(4);
            for (int m = 0; m < members; m++) {
                addMember(c);
            }
        }
        for (int n = random.nextInt(1 + total); n > 0; n--) {
            addList();
        }
    }

    boolean chance(int percent) {
        return random.nextInt(100) < percent;
    }

    boolean is(int c, int d) {
        return c == d || classes.get(c).parent >= 0 && is(classes.get(c).parent, d);
    }

    private String nextName() {
        String name = "m" + nextMember;
        nextMember++;
        return name;
    }

    private void add(Told t, String name, String type, int target, int names, String text) {
        t.members.add(name);
        t.types.add(type);
        t.targets.add(target);
        t.names.add(names);
        t.parts.add(name + " : " + text + " ; ");
    }

    private void addMember(int c) {
        Told t = classes.get(c);
        String name = nextName();
        String unique = chance(uniquePercent) ? " unique" : "";
        switch (random.nextInt(7)) {
            case 0:
                add(t, name, "whole", -1, 0, "whole" + unique);
                if (chance(60)) {
                    t.parts.add("hook " + (chance(50) ? "insert " : "change ") + name + " + " + random.nextInt(5)
                            + " ; ");
                }
                break;
            case 1:
                add(t, name, "small", -1, 0, "small" + unique);
                break;
            case 2:
                add(t, name, "flag", -1, 0, "flag");
                break;
            case 3:
                int names = 1 + random.nextInt(3);
                StringBuilder text = new StringBuilder("( n0");
                for (int i = 1; i < names; i++) {
                    text.append(" , n").append(i);
                }
                add(t, name, "names", -1, names, text + " )");
                break;
            default:
                int target = random.nextInt(classes.size());
                add(t, name, "to", target, 0, "to C" + target + (chance(mustPercent) ? " must" : "")
                        + (chance(30) ? " owned" : ""));
        }
    }

    private void addList() {
        for (int tries = 0; tries < 10; tries++) {
            int l = random.nextInt(classes.size());
            Told of = classes.get(l);
            int m = of.types.isEmpty() ? -1 : random.nextInt(of.types.size());
            int c = random.nextInt(classes.size());
            if (m >= 0 && of.types.get(m).equals("to") && is(c, of.targets.get(m))) {
                add(classes.get(c), nextName(), "list", l, 0,
                        "list C" + l + " by " + of.members.get(m) + (chance(50) ? " owned" : ""));
                return;
            }
        }
    }

    String text() {
        StringBuilder text = new StringBuilder();
        for (Told t : classes) {
            text.append("class ").append(t.name).append(' ');
            text.append(t.parent >= 0 ? "of C" + t.parent + " " : t.way).append("{ ");
            for (String part : t.parts) {
                text.append(part);
            }
            text.append("} ");
        }
        return text.toString();
    }

    String question() {
        int c = random.nextInt(classes.size());
        String text = classes.get(c).name;
        return chance(10) ? text : text + " where " + term(c, 3);
    }

    private String term(int c, int depth) {
        if (depth > 0) {
            switch (random.nextInt(7)) {
                case 0:
                    return term(c, depth - 1) + " or " + term(c, depth - 1);
                case 1:
                    return term(c, depth - 1) + " and " + term(c, depth - 1);
                case 2:
                    return "( " + term(c, depth - 1) + " )";
                case 3:
                    return "not " + term(c, depth - 1);
                default:
                    break;
            }
        }
        boolean empty = chance(30);
        StringBuilder text = new StringBuilder(empty ? "empty " : "");
        int at = c;
        for (int n = 0; n < 40; n++) {
            List<int[]> all = new ArrayList<>();
            for (int up = at; up >= 0; up = classes.get(up).parent) {
                for (int m = 0; m < classes.get(up).members.size(); m++) {
                    String type = classes.get(up).types.get(m);
                    if (!type.equals("list") && (!empty || type.equals("to")) || chance(2)) {
                        all.add(new int[] {up, m});
                    }
                }
            }
            if (all.isEmpty()) {
                break;
            }
            int[] pick = all.get(random.nextInt(all.size()));
            Told t = classes.get(pick[0]);
            String type = t.types.get(pick[1]);
            text.append(t.members.get(pick[1]));
            if (!type.equals("to")) {
                return text + operand(t, pick[1]);
            }
            if (empty && chance(60)) {
                return text.toString();
            }
            text.append(" . ");
            at = t.targets.get(pick[1]);
        }
        return text.append("m0 = 0").toString();
    }

    private String operand(Told t, int m) {
        String sign = " " + "=<>".charAt(random.nextInt(3)) + " ";
        if (t.types.get(m).equals("names") && chance(60)) {
            return sign + "n" + random.nextInt(t.names.get(m) + (chance(5) ? 1 : 0));
        }
        return sign + (chance(20) ? "- " : "") + random.nextInt(5);
    }

    /** The text with something that may be wrong in it. */
    String spoiled(String text) {
        String[] parts = text.split(" ");
        int at = random.nextInt(parts.length);
        switch (random.nextInt(9)) {
            case 6:
            case 7:
            case 8:
                return misnamed(parts);
            case 0:
                parts[at] = "";
                break;
            case 1:
                parts[at] = SCRAPS[random.nextInt(SCRAPS.length)];
                break;
            case 2:
                parts[at] = parts[at] + " " + SCRAPS[random.nextInt(SCRAPS.length)];
                break;
            case 3:
                parts[at] = parts[random.nextInt(parts.length)];
                break;
            case 4:
                return text.substring(0, random.nextInt(text.length() + 1));
            default:
                int i = random.nextInt(text.length() + 1);
                return text.substring(0, i) + SCRAPS[random.nextInt(SCRAPS.length)] + text.substring(i);
        }
        return String.join(chance(10) ? "" : " ", parts);
    }

    /** A name in the place of another one. */
    private String misnamed(String[] parts) {
        int[] at = new int[2];
        for (int i = 0; i < 2; i++) {
            for (int tries = 0; tries < 20 && !parts[at[i]].matches("[Cmn][0-9]+"); tries++) {
                at[i] = random.nextInt(parts.length);
            }
        }
        parts[at[0]] = parts[at[1]];
        return String.join(" ", parts);
    }
}
