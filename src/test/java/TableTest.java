/** Promises 24 to 27: tables, questions and counts. */
public final class TableTest {
    private static final int NONE = BeeRegister.NONE;
    private static final long MISSING = -4294967296L;
    private static final long NO_CELL = Long.MIN_VALUE;

    /** A and its heirs B, C (of B), D, with rows A 1, B 2, C 3, D 4; another root R ahead of them all. */
    private static BeeRegister family(String way) {
        BeeRegister x = Kit.mapped("class R { } class A" + way + " { a : whole ; k : list C by t ; b : to B ; } "
                + "class B of A { c : small ; } class S { s : flag ; } "
                + "class C of B { l : list B by b ; t : to A ; e : ( p , q ) ; } class D of A { d : whole ; }");
        x.unit();
        int[] classes = {1, 2, 4, 5};
        for (int i = 0; i < 4; i++) {
            x.make(0, classes[i]);
            x.put(i, 0, 10 + i);
        }
        for (int i = 0; i < 4; i++) {
            x.link(i, 2, 1);
        }
        x.put(1, 3, 21);
        x.put(2, 3, 22);
        x.link(2, 5, 3);
        x.put(2, 6, 1);
        x.put(3, 3, -1);
        Kit.due("flush", x.flush(0), 0);
        return x;
    }

    private static void row(BeeRegister x, int c, int key, long... cells) {
        for (int i = 0; i < cells.length; i++) {
            Kit.due("cell(" + c + ", " + key + ", " + i + ")", x.cell(c, key, i), cells[i]);
        }
        Kit.due("cell behind all of " + c + ", " + key, x.cell(c, key, cells.length), NO_CELL);
        Kit.due("cell(" + c + ", " + key + ", -1)", x.cell(c, key, -1), NO_CELL);
        Kit.due("cell(" + c + ", " + key + ", MAX)", x.cell(c, key, Integer.MAX_VALUE), NO_CELL);
        Kit.due("cell(" + c + ", " + key + ", MIN)", x.cell(c, key, Integer.MIN_VALUE), NO_CELL);
    }

    private static void noCells(BeeRegister x) {
        Kit.due("no class", x.cell(6, 1, 0), NO_CELL);
        Kit.due("no class", x.cell(-1, 1, 0), NO_CELL);
        Kit.due("no row", x.cell(1, 5, 0), NO_CELL);
        Kit.due("no row", x.cell(1, 0, 0), NO_CELL);
        Kit.due("no row of this family", x.cell(0, 1, 0), NO_CELL);
    }

    private static void wayOne(String way) {
        BeeRegister x = family(way);
        noCells(x);
        for (int c : new int[] {1, 2, 4, 5}) {
            row(x, c, 1, 1, 1, 10, 2, MISSING, MISSING, MISSING, MISSING);
            row(x, c, 2, 2, 1, 11, 2, 21, MISSING, MISSING, MISSING);
            row(x, c, 3, 4, 1, 12, 2, 22, 4, 1, MISSING);
            row(x, c, 4, 5, 1, 13, 2, MISSING, MISSING, MISSING, -1);
        }
        x.other(1, 4, 3, 6);
        row(x, 1, 4, 5, 2, 13, 2, MISSING, MISSING, MISSING, 6);
    }

    private static void wayJoined() {
        BeeRegister x = family(" way joined");
        noCells(x);
        row(x, 1, 1, 1, 1, 10, 2);
        row(x, 1, 2, 2, 1, 11, 2);
        row(x, 1, 3, 4, 1, 12, 2);
        row(x, 1, 4, 5, 1, 13, 2);
        row(x, 2, 1);
        row(x, 2, 2, 21);
        row(x, 2, 3, 22);
        row(x, 2, 4);
        row(x, 4, 2);
        row(x, 4, 3, 4, 1);
        row(x, 5, 3);
        row(x, 5, 4, -1);
    }

    private static void wayOwn() {
        BeeRegister x = family(" way own");
        noCells(x);
        row(x, 1, 1, 1, 10, 2);
        row(x, 1, 2);
        row(x, 1, 3);
        row(x, 2, 1);
        row(x, 2, 2, 1, 11, 2, 21);
        row(x, 2, 3);
        row(x, 4, 3, 1, 12, 2, 22, 4, 1);
        row(x, 4, 4);
        row(x, 5, 4, 1, 13, 2, -1);
    }

    private static void counts() {
        BeeRegister x = family("");
        Kit.due("classes", x.count(0), 6);
        Kit.due("units", x.count(1), 1);
        Kit.due("rows", x.count(2), 4);
        Kit.due("count(3)", x.count(3), NONE);
        Kit.due("count(-1)", x.count(-1), NONE);
        x.unit();
        x.make(1, 0);
        x.make(1, 3);
        Kit.due("units", x.count(1), 2);
        Kit.due("rows", x.count(2), 4);
        x.close(1, 1);
        Kit.due("units", x.count(1), 1);
        Kit.due("rows", x.count(2), 6);
    }

    /** Bees 1 to 5: 1 (n 1), 2 (n 2, next 1), 3 (n -3, next 2), queens 4 (n 4, next 4, of hive 1), 5 (n 5). */
    private static BeeRegister bees() {
        BeeRegister x = Kit.mapped("class Hive { sort : ( log , box , pot ) ; owner : to Hive ; } "
                + "class Bee { n : whole ; next : to Bee ; } class Queen of Bee { hive : to Hive ; f : flag ; "
                + "l : list Bee by next ; }");
        x.unit();
        for (int i = 0; i < 5; i++) {
            x.make(0, i < 3 ? 1 : 2);
            x.put(i, 0, i == 2 ? -3 : i + 1);
        }
        x.make(0, 0);
        x.put(5, 0, 1);
        x.link(1, 1, 0);
        x.link(2, 1, 1);
        x.link(3, 1, 3);
        x.link(3, 2, 5);
        x.put(4, 3, 1);
        return x;
    }

    private static void asks() {
        BeeRegister x = bees();
        Kit.due("no rows yet", x.count(2), 0);
        Kit.told(x, 0, "Bee", 1, 2, 3, 4, 5);
        Kit.due("the unit was written", x.count(2), 6);
        Kit.due("write(5, 0)", x.write(5, 0), 0);
        Kit.told(x, 0, "Queen", 4, 5);
        Kit.told(x, 0, "Bee where n = 2", 2);
        Kit.told(x, 0, "Bee where n < 2", 1, 3);
        Kit.told(x, 0, "Bee where n > 2", 4, 5);
        Kit.told(x, 0, "Bee where n=-3", 3);
        Kit.told(x, 0, "Bee where n > - 000003", 1, 2, 4, 5);
        Kit.told(x, 0, "Queen where n < 5 or f = 1", 4, 5);
        Kit.told(x, 0, "Hive where sort = box", 1);
        Kit.told(x, 0, "Hive where sort = log");
        Kit.told(x, 0, "Hive where sort < pot and sort > 0", 1);
        Kit.told(x, 0, "Bee where empty next", 1, 5);
        Kit.told(x, 0, "Bee where not empty next", 2, 3, 4);
        Kit.told(x, 0, "Bee where next.n = 1", 2);
        Kit.told(x, 0, "Bee where next.n < 4", 2, 3);
        Kit.told(x, 0, "Bee where next.next.n = 1", 3);
        Kit.told(x, 0, "Bee where empty next.next", 2);
        Kit.told(x, 0, "Queen where hive.sort = 1", 4);
        Kit.told(x, 0, "Queen where next.next.next.next.next.n = 4", 4);
        Kit.told(x, 0, "Queen where empty hive.owner.owner");
    }

    private static void truths() {
        BeeRegister x = bees();
        Kit.told(x, 0, "Bee where not next.n = 1", 3, 4);
        Kit.told(x, 0, "Bee where not not next.n = 1", 2);
        Kit.told(x, 0, "Bee where not empty next.next", 3, 4);
        Kit.told(x, 0, "Bee where next.n = 1 or n = 1", 1, 2);
        Kit.told(x, 0, "Bee where n = 1 or next.n = 1", 1, 2);
        Kit.told(x, 0, "Bee where not (next.n = 1 or n = 5)", 3, 4);
        Kit.told(x, 0, "Bee where not (next.n = 1 and n = 1)", 2, 3, 4, 5);
        Kit.told(x, 0, "Bee where not (n = 5 and next.n = 1)", 1, 2, 3, 4);
        Kit.told(x, 0, "Bee where not (next.n = 1 and n > 0)", 3, 4);
        Kit.told(x, 0, "Bee where n = 1 or n = 2 and n = 3", 1);
        Kit.told(x, 0, "Bee where n = 2 and n = 3 or n = 1", 1);
        Kit.told(x, 0, "Bee where (n = 1 or n = 2) and n = 2", 2);
        Kit.told(x, 0, "Bee where n = 2 and (n = 1 or n = 2)", 2);
        Kit.told(x, 0, "Bee where not n = 1 and not n = 2", 3, 4, 5);
        Kit.told(x, 0, "Bee where not (not (n = 1) or (n = 1 and (not n = 1)))", 1);
        Kit.told(x, 0, "Bee where n=1or n=2or n=5", 1, 2, 5);
    }

    private static void questionFaults() {
        BeeRegister x = bees();
        String[][] faults = {{"^", "2"}, {"  ^", "2"}, {"^where", "2"}, {"^7", "2"}, {"^Wasp", "3"}, {"^_", "1"},
            {"^Abcdefghi", "1"}, {"Bee ^n = 1", "2"}, {"Bee where^", "2"}, {"Bee where ^= 1", "2"},
            {"Bee where ^x = 1", "3"}, {"Bee where ^hive . sort = 1", "3"}, {"Bee where n^", "2"},
            {"Bee where n ^+ 1", "2"}, {"Bee where n =^", "2"}, {"Bee where n = ^=", "2"}, {"Bee where n = - ^x", "2"},
            {"Bee where n = - ^- 1", "2"}, {"Bee where n = ^one", "2"}, {"Bee where n = ^log", "3"},
            {"Bee where n = ^1234567", "1"}, {"Bee where n = 1 ^;", "2"}, {"Bee where n = 1 ^n", "2"},
            {"Bee where n = 1 ^)", "2"}, {"Bee where ( n = 1^", "2"}, {"Bee where ( n = 1 ^; )", "2"},
            {"Bee where n = 1 and^", "2"}, {"Bee where n = 1 or ^or", "2"}, {"Bee where not^", "2"},
            {"Bee where ( ^)", "2"}, {"Bee where ^next = 1", "3"}, {"Bee where ^next", "3"},
            {"Bee where ^n . n = 1", "3"}, {"Queen where ^l = 1", "3"}, {"Queen where ^l . n = 1", "3"},
            {"Queen where empty ^l", "3"}, {"Bee where empty ^n", "3"}, {"Bee where empty ^x", "3"},
            {"Bee where empty^", "2"}, {"Bee where empty ^not", "2"}, {"Bee where next . ^x = 1", "3"},
            {"Bee where next . ^hive . sort = 1", "3"}, {"Bee where next .^", "2"}, {"Bee where next . ^. n = 1", "2"},
            {"Queen where hive . sort = ^jar", "3"}, {"Bee where empty next ^= 1", "2"},
            {"Bee where n = 1 ^?", "1"}, {"Bee where ^next ?", "3"}};
        for (String[] fault : faults) {
            Kit.refusedQuestion(x, 0, fault[0], Integer.parseInt(fault[1]));
        }
        Kit.due("nothing was written", x.count(2), 0);
        Kit.due("not even tried", x.object(0, 0), 2);
    }

    private static void openParts() {
        BeeRegister x = bees();
        String head = "Bee where ";
        Kit.told(x, 0, head + "( ".repeat(20) + "n = 1" + " )".repeat(20), 1);
        Kit.told(x, 0, head + "not ".repeat(20) + "n = 1", 1);
        Kit.told(x, 0, head + "not ".repeat(19) + "n = 1 and " + "not ".repeat(20) + "n = 2", 2);
        Kit.told(x, 0, head + "not ( ".repeat(10) + "n = 1" + " )".repeat(10), 1);
        Kit.told(x, 0, head + "( ".repeat(19) + "n = 1 ) or ( not n = 2" + " )".repeat(19), 1, 3, 4, 5);
        Kit.faultyQuestion(x, 0, head + "( ".repeat(21) + "n = 1" + " )".repeat(21), 4, 50);
        Kit.faultyQuestion(x, 0, head + "not ".repeat(21) + "n = 1", 4, 90);
        Kit.faultyQuestion(x, 0, head + "not ( ".repeat(10) + "not n = 1" + " )".repeat(10), 4, 70);
        Kit.faultyQuestion(x, 0, head + "( ".repeat(20) + "n = 1 and ( n = 1", 4, 60);
        StringBuilder deep = new StringBuilder(head);
        for (int i = 0; i < 20; i++) {
            deep.append("n = 9 or n = 1 and ( ");
        }
        Kit.told(x, 0, deep + "n = 9 or n = 1 and n = 1" + " )".repeat(20), 1);
        StringBuilder wide = new StringBuilder(head);
        while (wide.length() < 2980) {
            wide.append("n=1or ");
        }
        Kit.told(x, 0, wide + "n=5", 1, 5);
        StringBuilder path = new StringBuilder("Queen where ");
        while (path.length() < 2990) {
            path.append("next.");
        }
        Kit.told(x, 0, path + "n=4", 4);
    }

    private static void refusedQuestions() {
        BeeRegister x = Kit.mapped("class A { n : whole unique ; }");
        Kit.tape(x, "A");
        Kit.due("no unit", x.ask(0), NONE);
        Kit.due("no unit", x.ask(-1), NONE);
        Kit.due("no unit", x.ask(4), NONE);
        Kit.due("the tape stays", x.end(1), 1);
        x.unit();
        x.make(0, 0);
        Kit.due("ask(0)", x.ask(0), 1);
        Kit.due("the tape is empty", x.end(1), NONE);
        Kit.due("found(0)", x.found(0), 1);
        Kit.due("found(1)", x.found(1), NONE);
        Kit.due("found(-1)", x.found(-1), NONE);
        x.make(0, 0);
        Kit.faultyQuestion(x, 0, "A where", 2, 7);
        Kit.due("the tape is empty", x.end(1), NONE);
        Kit.due("found stays", x.found(0), 1);
        Kit.tape(x, "A");
        x.ask(3);
        Kit.due("the fault stays", x.fault(0), 2);
        Kit.due("a rule is broken", x.ask(0), -11);
        Kit.came(x, 1, 0, 2, 0, 1);
        Kit.due("no fault", x.fault(0), 0);
        Kit.due("no place", x.fault(1), NONE);
        Kit.due("found stays", x.found(0), 1);
        x.put(1, 0, 6);
        x.put(0, 0, 5);
        x.other(0, 1, 0, 4);
        Kit.due("another one wrote", Kit.ask(x, 0, "A"), -12);
        Kit.due("the unit is closed", x.count(1), 0);
        x.unit();
        Kit.told(x, 0, "A where n = 4", 1);
        Kit.told(x, 0, "A where n = 5");
    }

    public static void main(String[] args) {
        wayOne("");
        wayOne(" way one");
        wayJoined();
        wayOwn();
        counts();
        asks();
        truths();
        questionFaults();
        openParts();
        refusedQuestions();
        Kit.finish();
    }
}
