/** The edges of Terms 2 and 3: objects and rows, and the units that hold them. */
final class UnitEdges {
    private static final int NONE = BeeRegister.NONE;
    private static final int STAND = 0;
    private static final int LOADED = 1;
    private static final int NEW = 2;
    private static final int DROPPED = 3;
    private static final int GONE = 4;
    private static final long NO_VALUE = Long.MIN_VALUE;

    /** Each leads to another one, which has it in its list. */
    private static final String CHAIN = "class A { n : whole ; a : to A ; l : list A by a ; }";

    private UnitEdges() {
    }

    static void run() {
        values();
        references();
        lists();
        keys();
        families();
        versions();
        must();
        unique();
        leading();
        manyRows();
        manyUnits();
        manyObjects();
        states();
        meeting();
        loading();
        loadingNone();
        droppingInOrder();
        droppingStates();
        listsOfUnits();
    }

    /** A register of CHAIN with rows 1 to many, each but the first leading to the one ahead; no unit is open. */
    static BeeRegister chained(int many) {
        BeeRegister x = Kit.mapped(CHAIN);
        x.unit();
        for (int i = 0; i < many; i++) {
            x.make(0, 0);
            x.put(i, 0, 10 * i);
            x.link(i, 1, i - 1);
        }
        x.close(0, 1);
        return x;
    }

    private static void values() {
        Sentences.term(2, "A member's value: whole -2^31 .. 2^31 - 1, small -128 .. 127, flag 0, 1, "
                + "of names their numbers from 0 on; at first 0.");
        BeeRegister x = Kit.mapped("class A { w : whole ; s : small ; f : flag ; e : ( p , q , r ) ; o : ( p ) ; }");
        x.unit();
        x.make(0, 0);
        int low = Integer.MIN_VALUE;
        int high = Integer.MAX_VALUE;
        int[][] good = {{low, -1, 0, high}, {-128, -1, 0, 127}, {1, 0}, {2, 1, 0}, {0}};
        int[][] bad = {{}, {-129, 128, low, high, 256}, {-1, 2, low, high}, {-1, 3, low, high}, {-1, 1, low, high}};
        for (int m = 0; m < 5; m++) {
            Kit.due("at first", x.value(0, m), 0);
            for (int v : good[m]) {
                Kit.due("put(0, " + m + ", " + v + ")", x.put(0, m, v), true);
                Kit.due("value", x.value(0, m), v);
            }
            for (int v : bad[m]) {
                Kit.due("put(0, " + m + ", " + v + ")", x.put(0, m, v), false);
                Kit.due("value", x.value(0, m), good[m][good[m].length - 1]);
            }
        }
        for (int m = 0; m < 4; m++) {
            x.put(0, m, 1);
        }
        x.close(0, 1);
        x.unit();
        x.make(0, 0);
        for (int m = 0; m < 5; m++) {
            Kit.due("at first in a unit that is opened again", x.value(0, m), 0);
        }
        Kit.due("its version", x.object(0, 3), 0);
    }

    private static void references() {
        Sentences.term(2, "A reference is EMPTY, or leads to an object of a class that IS the one told.");
        BeeRegister x = Kit.mapped("class A { b : to B ; } class B of A { } class C of B { } class D { }");
        x.unit();
        for (int c = 0; c < 4; c++) {
            x.make(0, c);
        }
        Kit.due("at first", x.value(0, 0), NONE);
        Kit.due("the class above", x.link(0, 0, 0), false);
        Kit.due("another family", x.link(0, 0, 3), false);
        Kit.due("still", x.value(0, 0), NONE);
        Kit.due("the class", x.link(0, 0, 1), true);
        Kit.due("its heir", x.link(0, 0, 2), true);
        Kit.due("value", x.value(0, 0), 2);
    }

    private static void lists() {
        Sentences.term(2, "A list has no value: in it are, in order of their KEYS, those whose reference (\"by\") "
                + "leads to the object.");
        BeeRegister x = Kit.mapped("class A { l : list B by a ; k : list B by b ; } class B { a : to A ; b : to A ; } "
                + "class C of B { }");
        x.unit();
        x.make(0, 0);
        Kit.due("no value", x.value(0, 0), NO_VALUE);
        Kit.due("nothing is put into it", x.put(0, 0, 0), false);
        Kit.due("nor is it linked", x.link(0, 0, NONE), false);
        Kit.due("empty", x.size(0, 0), 0);
        for (int i = 1; i <= 4; i++) {
            x.make(0, i % 2 == 0 ? 1 : 2);
            x.link(i, i == 4 ? 1 : 0, 0);
        }
        x.close(0, 1);
        x.unit();
        x.find(0, 1, 3);
        x.find(0, 0, 1);
        x.find(0, 1, 1);
        Kit.due("size", x.size(1, 0), 3);
        for (int i = 0; i < 3; i++) {
            Kit.due("key of " + i, x.object(x.item(1, 0, i), 1), i + 1);
        }
        Kit.due("by another reference", x.size(1, 1), 1);
        Kit.due("its key", x.object(x.item(1, 1, 0), 1), 4);
    }

    private static void keys() {
        Sentences.term(2, "each FAMILY counts its own, from 1 on (they are not used again), as objects are made.");
        BeeRegister x = Kit.mapped("class A { } class B of A { } class C { }");
        x.unit();
        x.unit();
        int[] classes = {0, 1, 2, 1, 2};
        int[] keys = {1, 2, 1, 3, 2};
        for (int i = 0; i < 5; i++) {
            x.make(0, classes[i]);
            Kit.due("key of " + i, x.object(i, 1), keys[i]);
        }
        x.drop(3);
        x.make(1, 0);
        Kit.due("behind one that is gone, in another unit", x.object(100, 1), 4);
        x.close(1, 0);
        x.unit();
        x.make(1, 0);
        Kit.due("behind a unit that was not written", x.object(100, 1), 5);
        x.close(1, 1);
        x.unit();
        x.find(1, 0, 5);
        x.drop(100);
        x.flush(1);
        x.make(1, 0);
        Kit.due("behind a row that was deleted", x.object(101, 1), 6);
    }

    private static void families() {
        Sentences.term(1, "all that have the same ROOT are a FAMILY.");
        BeeRegister x = Kit.mapped("class A { } class B { } class C of A { } class D of C { } class E of B { }");
        x.unit();
        int[] keys = {1, 1, 2, 3, 2};
        for (int c = 0; c < 5; c++) {
            x.make(0, c);
            Kit.due("key of " + c, x.object(c, 1), keys[c]);
            Kit.due("root of " + c, x.look(c, 1), c == 1 || c == 4 ? 1 : 0);
        }
    }

    private static void versions() {
        Sentences.term(2, "a VERSION (1 at first), a value for each member but lists "
                + "(of references the KEY, 0 EMPTY).");
        BeeRegister x = chained(2);
        Kit.due("version", x.cell(0, 1, 1), 1);
        Kit.due("value", x.cell(0, 2, 2), 10);
        Kit.due("empty", x.cell(0, 1, 3), 0);
        Kit.due("a key", x.cell(0, 2, 3), 1);
        Kit.due("no list", x.cell(0, 2, 4), Long.MIN_VALUE);
    }

    private static void must() {
        Sentences.term(2, "RULES: \"must\": not EMPTY.");
        BeeRegister x = Kit.mapped("class A { a : to A must ; }");
        x.unit();
        x.make(0, 0);
        Kit.due("an empty one", x.flush(0), 1);
        Kit.came(x, 1, 0, 1, 0, 0);
        x.link(0, 0, 0);
        Kit.due("one that is not", x.flush(0), 0);
        Kit.due("from outside", x.other(0, 1, 0, 0), false);
        x.link(0, 0, NONE);
        Kit.due("emptied", x.flush(0), 1);
        Kit.came(x, 1, 0, 1, 0, 0);
    }

    private static void unique() {
        Sentences.term(2, "\"unique\": no two rows of classes that have the member have the same value.");
        BeeRegister x = Kit.mapped("class A { } class B of A { u : small unique ; v : small ; } class C of B { } "
                + "class D of A { u : small unique ; }");
        x.unit();
        for (int c = 0; c < 4; c++) {
            x.make(0, c);
        }
        Kit.due("of a heir", x.flush(0), 1);
        Kit.came(x, 1, 2, 3, 0, 1);
        x.put(2, 0, 1);
        Kit.due("a member of another class, and one that is not unique", x.flush(0), 0);
        Kit.due("from outside", x.other(0, 3, 0, 0), false);
        Kit.due("its own value", x.other(0, 3, 0, 1), true);
        Kit.due("one that nobody has", x.other(0, 3, 0, -1), true);
    }

    private static void leading() {
        Sentences.term(2, "A reference leads to a row that there is, of a class that IS the one told.");
        BeeRegister x = Kit.mapped("class A { b : to B ; } class B of A { } class C { b : to B ; }");
        x.unit();
        x.make(0, 0);
        x.make(0, 1);
        x.make(0, 2);
        Kit.due("flush", x.flush(0), 0);
        Kit.due("no row", x.other(2, 1, 0, 3), false);
        Kit.due("no row", x.other(2, 1, 0, -1), false);
        Kit.due("of the class above", x.other(2, 1, 0, 1), false);
        Kit.due("a row", x.other(2, 1, 0, 2), true);
        Kit.due("a delete of it", x.drop(1), 1);
        Kit.due("is refused", x.flush(0), 1);
        Kit.came(x, 1, 1, 2, 0, 2);
    }

    private static void manyRows() {
        Sentences.term(2, "A FAMILY has at most 60 rows.");
        BeeRegister x = Kit.mapped("class A { } class C { } class B of A { }");
        x.unit();
        for (int i = 0; i < 60; i++) {
            x.make(0, i % 2 * 2);
        }
        Kit.due("sixty", x.flush(0), 0);
        Kit.due("rows", x.count(2), 60);
        x.unit();
        x.make(1, 2);
        Kit.due("one more", x.flush(1), 5);
        Kit.came(x, 5, 2, 61, NONE, NONE);
        Kit.due("rows", x.count(2), 60);
        x.drop(59);
        Kit.due("one less", x.flush(0), 0);
        Kit.due("then it has room", x.flush(1), 0);
        x.make(1, 1);
        Kit.due("another family", x.flush(1), 0);
        Kit.due("rows", x.count(2), 61);
        Kit.told(x, 1, "C", 1);
        fullFamilies();
    }

    /** Three families with sixty rows each, the last one of twelve, too: the first row comes last and goes first. */
    private static void fullFamilies() {
        StringBuilder text = new StringBuilder();
        for (int c = 0; c < 12; c++) {
            text.append("class C").append(c).append(" { } ");
        }
        BeeRegister x = Kit.mapped(text.toString());
        int[] classes = {0, 1, 11};
        for (int i = 0; i < 4; i++) {
            x.unit();
        }
        for (int i = 0; i < 3; i++) {
            x.make(3, classes[i]);
            for (int n = 0; n < 59; n++) {
                x.make(i, classes[i]);
            }
            Kit.due("fifty-nine", x.flush(i), 0);
        }
        for (int round = 0; round < 2; round++) {
            Kit.due("the first one", x.flush(3), 0);
            for (int i = 0; i < 3; i++) {
                Kit.due("rows", Kit.ask(x, 3, "C" + classes[i]), 60 - round);
                Kit.due("the first key", x.found(0), 1 + round);
                Kit.due("the last key", x.found(59 - round), 60);
                Kit.due("the last row", x.cell(classes[i], 60, 0), classes[i]);
                x.drop(300 + i);
            }
        }
    }

    private static void manyUnits() {
        Sentences.term(3, "UNITS, at most 4");
        BeeRegister x = new BeeRegister();
        for (int i = 0; i < 4; i++) {
            Kit.due("unit()", x.unit(), i);
        }
        Kit.due("a fifth one", x.unit(), NONE);
        Kit.due("units", x.count(1), 4);
    }

    private static void manyObjects() {
        Sentences.term(3, "each with at most 60 objects, numbered as they come "
                + "(0 .. 59; object number = 100 UNIT and that).");
        BeeRegister x = Kit.mapped("class A { }");
        for (int unit = 0; unit < 4; unit++) {
            x.unit();
        }
        for (int unit = 3; unit >= 0; unit -= 3) {
            for (int i = 0; i < 60; i++) {
                Kit.due("make", x.make(unit, 0), 100 * unit + i);
            }
            Kit.due("one more", x.make(unit, 0), -2);
            Kit.due("the last one", x.object(100 * unit + 59, 0), NEW);
            Kit.due("none behind it", x.object(100 * unit + 60, 0), NONE);
            Kit.due("none behind it", x.object(100 * unit + 99, 0), NONE);
        }
        x.drop(0);
        Kit.due("one that is gone keeps its number", x.make(0, 0), -2);
        Kit.due("another unit has room", x.make(1, 0), 100);
    }

    private static void states() {
        Sentences.term(3, "An object is 0 a STAND (its row was not looked at), 1 LOADED, 2 NEW, 3 DROPPED, 4 GONE.");
        BeeRegister x = chained(2);
        x.unit();
        x.find(0, 0, 2);
        x.value(0, 1);
        x.make(0, 0);
        Kit.due("a stand", x.object(1, 0), STAND);
        Kit.due("loaded", x.object(0, 0), LOADED);
        Kit.due("new", x.object(2, 0), NEW);
        x.drop(0);
        x.drop(2);
        Kit.due("dropped", x.object(0, 0), DROPPED);
        Kit.due("gone", x.object(2, 0), GONE);
        x.flush(0);
        Kit.due("gone", x.object(0, 0), GONE);
    }

    private static void meeting() {
        Sentences.term(3, "To meet a row: its object, if there is one in the UNIT; else a STAND comes.");
        BeeRegister x = chained(2);
        x.unit();
        x.find(0, 0, 2);
        Kit.due("one comes", x.value(0, 1), 1);
        Kit.state(x, 1, STAND);
        Kit.due("it is there", x.value(0, 1), 1);
        Kit.state(x, 1, STAND);
        Kit.due("no other came", x.object(2, 0), NONE);
        x.unit();
        x.find(1, 0, 1);
        x.find(1, 0, 2);
        Kit.due("one that is loaded", x.value(101, 1), 100);
        Kit.due("in a list", x.item(100, 2, 0), 101);
        Kit.due("no other came", x.object(102, 0), NONE);
    }

    /** Object 1 is a stand of row 1, met through object 0. */
    private static BeeRegister standing() {
        BeeRegister x = chained(2);
        x.unit();
        x.find(0, 0, 2);
        x.value(0, 1);
        Kit.state(x, 1, STAND);
        return x;
    }

    private static void loading() {
        Sentences.term(3, "To LOAD a STAND (when one of its members, its class, its VERSION, a list is asked for, "
                + "or something is put into it)");
        for (int how = 0; how < 8; how++) {
            BeeRegister x = standing();
            switch (how) {
                case 0: Kit.due("a member", x.value(1, 0), 0); break;
                case 1: Kit.due("a reference", x.value(1, 1), NONE); break;
                case 2: Kit.due("its class", x.object(1, 2), 0); break;
                case 3: Kit.due("its version", x.object(1, 3), 1); break;
                case 4: Kit.due("a list", x.size(1, 2), 1); break;
                case 5: Kit.due("what is in a list", x.item(1, 2, 0), 0); break;
                case 6: Kit.due("put", x.put(1, 0, 5), true); break;
                default: Kit.due("link", x.link(1, 1, 0), true);
            }
            Kit.state(x, 1, LOADED);
            Kit.due("loads", x.loads(0), 2);
        }
        BeeRegister y = standing();
        Kit.due("its key", y.object(1, 1), 1);
        Kit.due("what leads to it", y.value(0, 1), 1);
        Kit.due("a writing", y.flush(0), 0);
        Kit.state(y, 1, STAND);
        Kit.due("loads", y.loads(0), 1);

        Sentences.term(3, "it is LOADED, its values are the row's, a copy of them and of the VERSION is kept");
        y.other(0, 1, 0, 77);
        Kit.due("the row's value", y.value(1, 0), 77);
        Kit.due("the row's version", y.object(1, 3), 2);
        y.flush(0);
        Kit.due("nothing is other than its copy", y.write(0, 0), NONE);
        y.other(0, 1, 0, 78);
        Kit.due("the value stays", y.value(1, 0), 77);
        Kit.due("the version stays", y.object(1, 3), 2);
        y.put(1, 0, 79);
        Kit.due("the copy's version is not the row's", y.flush(0), 2);
    }

    private static void loadingNone() {
        Sentences.term(3, "without a row it is GONE.");
        for (int how = 0; how < 8; how++) {
            BeeRegister x = standing();
            x.unit();
            x.find(1, 0, 2);
            x.link(100, 1, NONE);
            x.find(1, 0, 1);
            x.drop(101);
            Kit.due("its row is deleted", x.flush(1), 0);
            Kit.state(x, 1, STAND);
            switch (how) {
                case 0: Kit.due("a member", x.value(1, 0), NO_VALUE); break;
                case 1: Kit.due("its class", x.object(1, 2), NONE); break;
                case 2: Kit.due("its version", x.object(1, 3), NONE); break;
                case 3: Kit.due("a list", x.size(1, 2), NONE); break;
                case 4: Kit.due("what is in a list", x.item(1, 2, 0), NONE); break;
                case 5: Kit.due("put", x.put(1, 0, 5), false); break;
                case 6: Kit.due("link", x.link(1, 1, 0), false); break;
                default: Kit.due("drop", x.drop(1), NONE);
            }
            Kit.state(x, 1, GONE);
            Kit.due("no row was loaded", x.loads(0), 1);
        }
    }

    /** Row 1 owns 2 and 3, 2 owns 4 and (by its list) 6, 3 owns 5: the stands come in the order of the row. */
    private static void droppingInOrder() {
        Sentences.term(3, "of each in this row, one behind the other, what its references and lists with \"owned\" "
                + "lead to (in order of its members; all is as it was) is met, a STAND is LOADED, "
                + "and what is NEW or LOADED then, and not in the row, comes behind it.");
        BeeRegister x = Kit.mapped("class A { x : to A owned ; l : list A by f owned ; y : to A owned ; f : to A ; "
                + "z : to A ; k : list A by z ; }");
        x.unit();
        for (int i = 0; i < 9; i++) {
            x.make(0, 0);
        }
        int[][] links = {{0, 0, 2}, {0, 2, 1}, {1, 0, 3}, {2, 2, 4}, {5, 3, 1}, {3, 0, 0}, {0, 4, 6}, {7, 4, 0}};
        for (int[] link : links) {
            x.link(link[0], link[1], link[2]);
        }
        Kit.due("close", x.close(0, 1), 0);
        x.unit();
        x.find(0, 0, 1);
        Kit.due("drop", x.drop(0), 6);
        int[] keys = {1, 3, 2, 5, 4, 6};
        for (int o = 0; o < 6; o++) {
            Kit.due("key of " + o, x.object(o, 1), keys[o]);
            Kit.state(x, o, DROPPED);
        }
        Kit.due("what is not owned was not met", x.object(6, 0), NONE);
        Kit.due("loads", x.loads(0), 6);
    }

    private static void droppingStates() {
        Sentences.term(3, "Then of all in the row the NEW ones are GONE, the LOADED ones DROPPED.");
        BeeRegister x = Kit.mapped("class A { a : to A owned ; b : to A owned ; }");
        x.unit();
        for (int i = 0; i < 6; i++) {
            x.make(0, 0);
        }
        x.link(1, 0, 4);
        x.flush(0);
        x.make(0, 0);
        x.make(0, 0);
        int[][] links = {{0, 0, 1}, {0, 1, 6}, {6, 0, 2}, {6, 1, 3}, {4, 0, 7}, {7, 0, 7}};
        for (int[] link : links) {
            x.link(link[0], link[1], link[2]);
        }
        Kit.due("one ahead", x.drop(3), 1);
        Kit.due("drop", x.drop(0), 6);
        int[] states = {DROPPED, DROPPED, DROPPED, DROPPED, DROPPED, LOADED, GONE, GONE};
        for (int o = 0; o < 8; o++) {
            Kit.state(x, o, states[o]);
        }
    }

    private static void listsOfUnits() {
        Sentences.term(3, "What is in a list, in a UNIT: its own NEW and LOADED objects by their values; "
                + "of rows of which it has no object, or a STAND, by these.");
        BeeRegister x = Kit.mapped(CHAIN);
        x.unit();
        for (int i = 0; i < 6; i++) {
            x.make(0, 0);
            x.link(i, 1, i == 0 || i == 4 ? NONE : 0);
        }
        Kit.due("new ones", x.size(0, 2), 4);
        x.close(0, 1);
        x.unit();
        x.find(0, 0, 1);
        Kit.due("rows without objects", x.size(0, 2), 4);
        x.find(0, 0, 2);
        x.link(1, 1, NONE);
        Kit.due("a loaded one left", x.size(0, 2), 3);
        x.find(0, 0, 5);
        x.link(2, 1, 0);
        Kit.due("a loaded one came", x.size(0, 2), 4);
        Kit.due("a stand", x.object(x.item(0, 2, 0), 1), 3);
        Kit.state(x, 3, STAND);
        x.other(0, 3, 1, 0);
        Kit.due("the stand's row left", x.size(0, 2), 3);
        x.other(0, 3, 1, 1);
        Kit.due("and came", x.size(0, 2), 4);
        x.other(0, 2, 1, 0);
        x.other(0, 5, 1, 2);
        Kit.due("rows of loaded ones do not tell", x.size(0, 2), 4);
        x.drop(3);
        Kit.due("a dropped one", x.size(0, 2), 3);
        x.make(0, 0);
        x.link(4, 1, 0);
        Kit.due("a new one", x.size(0, 2), 4);
        x.unit();
        x.find(1, 0, 1);
        Kit.due("not in another unit", x.size(100, 2), 3);
        x.drop(4);
        Kit.due("one that is gone", x.size(0, 2), 3);
        x.find(1, 0, 6);
        x.drop(101);
        Kit.due("the last row is deleted", x.flush(1), 0);
        Kit.due("it is not in it", x.size(0, 2), 2);
    }
}
