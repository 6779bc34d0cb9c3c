/** Promises 9 to 12 and 23: what is written, in what order, and what breaks it off. */
public final class WritingTest {
    private static final int NONE = BeeRegister.NONE;

    private static void row(BeeRegister x, String what, int c, int key, long... cells) {
        for (int i = 0; i < cells.length; i++) {
            Kit.due(what + ": cell(" + c + ", " + key + ", " + i + ")", x.cell(c, key, i), cells[i]);
        }
    }

    private static void closes() {
        BeeRegister x = Kit.mapped("class A { n : whole unique ; }");
        Kit.due("no unit", x.close(0, 0), NONE);
        Kit.due("no unit", x.flush(0), NONE);
        x.unit();
        x.unit();
        x.make(0, 0);
        Kit.due("no how", x.close(0, 2), NONE);
        Kit.due("no how", x.close(0, -1), NONE);
        Kit.due("no unit", x.close(2, 0), NONE);
        Kit.due("no unit", x.close(-1, 1), NONE);
        Kit.due("no unit", x.close(4, 1), NONE);
        Kit.due("units", x.count(1), 2);
        Kit.due("closed", x.close(0, 0), 0);
        Kit.due("units", x.count(1), 1);
        Kit.due("rows", x.count(2), 0);
        Kit.due("closed already", x.close(0, 0), NONE);
        x.make(1, 0);
        Kit.due("written and closed", x.close(1, 1), 0);
        Kit.due("rows", x.count(2), 1);
        Kit.due("units", x.count(1), 0);
        Kit.wrote(x, 0, 0, 0, 2, 0);
        x.unit();
        x.make(0, 0);
        Kit.due("not unique", x.close(0, 1), 1);
        Kit.due("it stays", x.count(1), 1);
        Kit.came(x, 1, 0, 3, 0, 1);
        Kit.due("closed without a writing", x.close(0, 0), 0);
        Kit.came(x, 1, 0, 3, 0, 1);
        x.unit();
        x.find(0, 0, 2);
        x.put(0, 0, 9);
        x.other(0, 2, 0, 5);
        Kit.due("another one wrote", x.close(0, 1), 2);
        Kit.due("it is closed", x.count(1), 0);
        row(x, "the row stays", 0, 2, 0, 2, 5);
    }

    private static void flushes() {
        BeeRegister x = Kit.mapped("class A { n : whole ; m : small ; a : to A ; }");
        x.unit();
        Kit.due("nothing to write", x.flush(0), 0);
        Kit.noWrite(x, 0);
        x.make(0, 0);
        x.put(0, 0, 8);
        Kit.due("flush", x.flush(0), 0);
        Kit.came(x, 0, NONE, NONE, NONE, NONE);
        Kit.due("outcome(5)", x.outcome(5), NONE);
        Kit.due("outcome(-1)", x.outcome(-1), NONE);
        Kit.wrote(x, 0, 0, 0, 1, 0);
        Kit.due("write(0, 4)", x.write(0, 4), NONE);
        Kit.due("write(0, -1)", x.write(0, -1), NONE);
        Kit.due("write(-1, 0)", x.write(-1, 0), NONE);
        Kit.noWrite(x, 1);
        row(x, "inserted", 0, 1, 0, 1, 8, 0, 0);
        Kit.due("it is loaded", x.object(0, 0), 1);
        Kit.due("its version", x.object(0, 3), 1);
        Kit.due("no row was loaded", x.loads(0), 0);
        Kit.due("flush again", x.flush(0), 0);
        Kit.noWrite(x, 0);
        x.put(0, 1, 4);
        x.put(0, 1, 0);
        x.flush(0);
        Kit.noWrite(x, 0);
        x.put(0, 1, 4);
        x.link(0, 2, 0);
        Kit.due("flush", x.flush(0), 0);
        Kit.wrote(x, 0, 1, 0, 1, 2);
        Kit.noWrite(x, 1);
        row(x, "changed", 0, 1, 0, 2, 8, 4, 1);
        Kit.due("its version", x.object(0, 3), 2);
        x.drop(0);
        Kit.due("flush", x.flush(0), 0);
        Kit.wrote(x, 0, 2, 0, 1, 0);
        Kit.due("it is gone", x.object(0, 0), 4);
        Kit.due("rows", x.count(2), 0);
        Kit.due("the row is gone", x.cell(0, 1, 0), Long.MIN_VALUE);
    }

    /** By class, then key; what is led to is first; circles are put off. */
    private static void order() {
        BeeRegister x = Kit.mapped("class A { b : to B ; } class B { a : to A ; c : to C must ; } "
                + "class C { } class D of A { }");
        x.unit();
        x.make(0, 3);
        x.make(0, 2);
        x.make(0, 1);
        x.make(0, 0);
        x.make(0, 0);
        x.link(2, 1, 1);
        x.link(2, 0, 4);
        x.link(3, 0, 2);
        x.link(4, 0, 2);
        Kit.due("flush", x.flush(0), 0);
        Kit.wrote(x, 0, 0, 2, 1, 0);
        Kit.wrote(x, 1, 0, 3, 1, 0);
        Kit.wrote(x, 2, 0, 0, 2, 0);
        Kit.wrote(x, 3, 0, 0, 3, 0);
        Kit.wrote(x, 4, 0, 1, 1, 0);
        Kit.wrote(x, 5, 1, 0, 2, 1);
        Kit.wrote(x, 6, 1, 0, 3, 1);
        Kit.noWrite(x, 7);
        row(x, "put off", 0, 2, 0, 2, 1);
        row(x, "put off", 0, 3, 0, 2, 1);
        row(x, "not put off", 1, 1, 1, 1, 3, 1);
        Kit.due("version of one put off", x.object(3, 3), 2);
        Kit.due("version of another", x.object(2, 3), 1);
        x.put(0, 0, 0);
        x.link(0, 0, 2);
        x.link(2, 0, NONE);
        Kit.due("flush", x.flush(0), 0);
        Kit.wrote(x, 0, 1, 1, 1, 1);
        Kit.wrote(x, 1, 1, 3, 1, 1);
        Kit.noWrite(x, 2);
    }

    private static void deletesInOrder() {
        BeeRegister x = Kit.mapped("class A { b : to B ; } class B { a : to A ; }");
        x.unit();
        for (int i = 0; i < 3; i++) {
            x.make(0, 0);
            x.make(0, 1);
        }
        x.link(1, 0, 0);
        x.link(3, 0, 2);
        x.link(2, 0, 1);
        Kit.due("flush", x.flush(0), 0);
        for (int o = 0; o < 6; o++) {
            Kit.due("drop", x.drop(o), 1);
        }
        Kit.due("flush", x.flush(0), 0);
        Kit.wrote(x, 0, 2, 0, 3, 0);
        Kit.wrote(x, 1, 2, 1, 2, 0);
        Kit.wrote(x, 2, 2, 0, 2, 0);
        Kit.wrote(x, 3, 2, 1, 1, 0);
        Kit.wrote(x, 4, 2, 0, 1, 0);
        Kit.wrote(x, 5, 2, 1, 3, 0);
        Kit.noWrite(x, 6);
        Kit.due("rows", x.count(2), 0);
    }

    private static void hooks() {
        BeeRegister x = Kit.mapped("class A { n : whole ; m : whole ; hook insert n + 2 ; hook change m + 5 ; "
                + "hook insert n + 10 ; } class B of A { r : to B must ; hook insert m + 7 ; hook change n + 100 ; }");
        x.unit();
        x.make(0, 0);
        x.make(0, 1);
        x.put(1, 0, Integer.MAX_VALUE);
        Kit.due("must", x.flush(0), 1);
        Kit.came(x, 1, 1, 2, 2, 0);
        Kit.wrote(x, 0, 0, 0, 1, 0);
        Kit.noWrite(x, 1);
        Kit.due("no rows", x.count(2), 0);
        Kit.due("still new", x.object(0, 0), 2);
        Kit.due("hooks were run", x.value(0, 0), 12);
        Kit.due("hooks go round", x.value(1, 0), Integer.MIN_VALUE + 11);
        Kit.due("those of all its classes", x.value(1, 1), 7);
        x.link(1, 2, 1);
        Kit.due("flush", x.flush(0), 0);
        Kit.due("hooks were run again", x.value(0, 0), 24);
        Kit.due("and of the heir", x.value(1, 1), 14);
        row(x, "in the row", 0, 1, 0, 1, 24, 0, -4294967296L);
        Kit.due("nothing changed", x.flush(0), 0);
        Kit.due("no hook", x.value(0, 1), 0);
        x.put(0, 0, 1);
        x.put(1, 0, 1);
        Kit.due("flush", x.flush(0), 0);
        Kit.wrote(x, 0, 1, 0, 1, 2);
        Kit.wrote(x, 1, 1, 1, 2, 2);
        Kit.due("change", x.value(0, 1), 5);
        Kit.due("change", x.value(1, 0), 101);
        Kit.due("change", x.value(1, 1), 19);
        x.put(1, 0, 1);
        x.put(1, 1, 14);
        Kit.due("the hooks take the change back", x.flush(0), 0);
        Kit.noWrite(x, 0);
        Kit.due("as it was", x.value(1, 0), 101);
        Kit.due("version", x.object(1, 3), 2);
    }

    private static void rules() {
        BeeRegister x = Kit.mapped("class A { u : small unique ; r : to A ; } class B of A { v : whole unique ; } "
                + "class C { a : to A must ; u : small unique ; }");
        x.unit();
        x.make(0, 2);
        Kit.due("must", x.flush(0), 1);
        Kit.came(x, 1, 2, 1, 0, 0);
        x.make(0, 1);
        x.link(0, 0, 1);
        Kit.due("flush", x.flush(0), 0);
        x.make(0, 0);
        Kit.due("unique with an heir", x.flush(0), 1);
        Kit.came(x, 1, 0, 2, 0, 1);
        x.put(2, 0, 1);
        Kit.due("flush", x.flush(0), 0);
        x.make(0, 1);
        x.put(3, 0, 2);
        Kit.due("unique among heirs", x.flush(0), 1);
        Kit.came(x, 1, 1, 3, 2, 1);
        x.put(3, 2, 4);
        x.put(2, 0, 0);
        Kit.due("unique in a change", x.flush(0), 1);
        Kit.came(x, 1, 0, 2, 0, 1);
        Kit.wrote(x, 0, 0, 1, 3, 0);
        Kit.noWrite(x, 1);
        Kit.due("all rows are as they were", x.count(2), 3);
        Kit.due("the new one is new", x.object(3, 0), 2);
        x.put(2, 0, 1);
        x.make(0, 0);
        x.put(4, 0, 9);
        x.link(2, 1, 4);
        x.drop(4);
        Kit.due("it leads to no row", x.flush(0), 1);
        Kit.came(x, 1, 0, 2, 1, 2);
        x.link(2, 1, 2);
        Kit.due("it leads to itself", x.flush(0), 0);
        x.link(2, 1, 1);
        x.make(0, 0);
        x.put(5, 0, 8);
        x.link(5, 1, 5);
        Kit.due("a new one that leads to itself", x.flush(0), 0);
        Kit.wrote(x, 0, 0, 0, 5, 0);
        Kit.wrote(x, 1, 1, 0, 2, 1);
        x.link(0, 0, NONE);
        Kit.due("must in a change", x.flush(0), 1);
        Kit.came(x, 1, 2, 1, 0, 0);
        x.link(0, 0, 1);
        x.drop(1);
        Kit.due("two rows lead to it: the first one by class", x.flush(0), 1);
        Kit.came(x, 1, 1, 1, 1, 2);
        Kit.due("rows", x.count(2), 5);
        Kit.due("still dropped", x.object(1, 0), 3);
    }

    private static void membersInOrder() {
        BeeRegister x = Kit.mapped("class A { r : to A ; u : flag unique ; m : to A must ; }");
        x.unit();
        x.make(0, 0);
        x.link(0, 2, 0);
        x.flush(0);
        x.make(0, 0);
        x.make(0, 0);
        x.link(1, 0, 2);
        x.drop(2);
        Kit.due("flush", x.flush(0), 1);
        Kit.came(x, 1, 0, 2, 0, 2);
        x.link(1, 0, NONE);
        Kit.due("flush", x.flush(0), 1);
        Kit.came(x, 1, 0, 2, 1, 1);
        x.put(1, 1, 1);
        Kit.due("flush", x.flush(0), 1);
        Kit.came(x, 1, 0, 2, 2, 0);
        x.link(1, 2, 0);
        Kit.due("flush", x.flush(0), 0);
    }

    private static void stale() {
        BeeRegister x = Kit.mapped("class A { n : whole ; m : whole ; }");
        x.unit();
        x.make(0, 0);
        x.make(0, 0);
        x.make(0, 0);
        x.flush(0);
        x.unit();
        x.unit();
        x.find(1, 0, 1);
        x.find(1, 0, 2);
        x.find(2, 0, 1);
        x.put(100, 0, 5);
        x.put(101, 0, 5);
        Kit.due("flush(1)", x.flush(1), 0);
        x.make(2, 0);
        x.put(200, 1, 6);
        Kit.due("the row has another version", x.flush(2), 2);
        Kit.came(x, 2, 0, 1, NONE, NONE);
        Kit.wrote(x, 0, 0, 0, 4, 0);
        Kit.noWrite(x, 1);
        Kit.due("the unit is closed", x.flush(2), NONE);
        Kit.due("all rows are as they were", x.count(2), 3);
        row(x, "the first write stays", 0, 1, 0, 2, 5, 0);
        x.drop(1);
        Kit.due("a delete of another version", x.flush(0), 2);
        Kit.came(x, 2, 0, 2, NONE, NONE);
        Kit.due("the unit is closed", x.count(1), 1);
        x.unit();
        x.find(0, 0, 3);
        x.find(1, 0, 3);
        x.drop(102);
        Kit.due("deleted", x.flush(1), 0);
        x.put(0, 0, 1);
        Kit.due("a change without a row", x.flush(0), 2);
        Kit.came(x, 2, 0, 3, NONE, NONE);
        x.unit();
        x.find(0, 0, 2);
        x.find(1, 0, 2);
        x.drop(101);
        Kit.due("deleted", x.flush(1), 0);
        Kit.due("an object without a change stays", x.flush(0), 0);
        x.drop(0);
        Kit.due("a delete without a row", x.flush(0), 2);
        Kit.came(x, 2, 0, 2, NONE, NONE);
    }

    private static void circles() {
        BeeRegister x = Kit.mapped("class A { b : to B must ; } class B { a : to A must ; } class C { c : to C ; }");
        x.unit();
        x.make(0, 2);
        x.make(0, 1);
        x.make(0, 0);
        x.link(1, 0, 2);
        x.link(2, 0, 1);
        Kit.due("flush", x.flush(0), 4);
        Kit.came(x, 4, 0, 1, NONE, NONE);
        Kit.wrote(x, 0, 0, 2, 1, 0);
        Kit.noWrite(x, 1);
        Kit.due("rows", x.count(2), 0);
        Kit.due("the unit stays", x.count(1), 1);
    }

    private static void room() {
        BeeRegister x = Kit.mapped("class A { n : whole unique ; } class B { } class C of A { }");
        x.unit();
        for (int i = 0; i < 60; i++) {
            x.make(0, 0);
            x.put(i, 0, i);
        }
        Kit.due("sixty rows", x.close(0, 1), 0);
        Kit.wrote(x, 59, 0, 0, 60, 0);
        x.unit();
        x.make(0, 1);
        x.make(0, 2);
        Kit.due("no room", x.flush(0), 5);
        Kit.came(x, 5, 2, 61, NONE, NONE);
        Kit.wrote(x, 0, 0, 1, 1, 0);
        Kit.noWrite(x, 1);
        Kit.due("rows", x.count(2), 60);
        x.find(0, 0, 7);
        x.drop(2);
        Kit.due("what is deleted goes last", x.flush(0), 5);
        x.drop(1);
        Kit.due("another family has room", x.flush(0), 0);
        Kit.due("rows", x.count(2), 60);
    }

    private static void fromOutside() {
        BeeRegister x = Kit.mapped("class A way own { u : small unique ; r : to A must ; f : flag ; l : list A by r ; } "
                + "class B of A { e : ( p , q ) ; n : whole ; b : to B ; }");
        Kit.due("no row", x.other(0, 1, 0, 0), false);
        x.unit();
        x.make(0, 0);
        x.make(0, 1);
        x.put(1, 0, 1);
        x.link(0, 1, 1);
        x.link(1, 1, 1);
        Kit.due("flush", x.flush(0), 0);
        Kit.due("by the heir's class", x.other(1, 1, 0, 127), true);
        row(x, "changed", 0, 1, 2, 127, 2, 0);
        Kit.due("the same value", x.other(0, 1, 0, 127), true);
        row(x, "version", 0, 1, 3, 127, 2, 0);
        Kit.due("no class", x.other(2, 1, 0, 0), false);
        Kit.due("no class", x.other(-1, 1, 0, 0), false);
        Kit.due("no key", x.other(0, 3, 0, 0), false);
        Kit.due("no key", x.other(0, 0, 0, 0), false);
        Kit.due("no member of its class", x.other(1, 1, 4, 0), false);
        Kit.due("no member", x.other(1, 2, 7, 0), false);
        Kit.due("no member", x.other(1, 2, -1, 0), false);
        Kit.due("a list", x.other(0, 1, 3, 0), false);
        Kit.due("no value", x.other(0, 1, 0, 128), false);
        Kit.due("no value", x.other(0, 1, 2, 2), false);
        Kit.due("no value", x.other(0, 2, 4, 2), false);
        Kit.due("not unique", x.other(0, 1, 0, 1), false);
        Kit.due("must", x.other(0, 1, 1, 0), false);
        Kit.due("no row", x.other(0, 1, 1, 3), false);
        Kit.due("no row", x.other(0, 1, 1, -1), false);
        Kit.due("of no class that is it", x.other(0, 2, 6, 1), false);
        row(x, "nothing happened", 0, 1, 3, 127, 2, 0);
        row(x, "nothing happened", 1, 2, 1, 1, 2, 0, 0, 0, 0);
        Kit.due("itself", x.other(0, 1, 1, 1), true);
        Kit.due("itself", x.other(0, 2, 6, 2), true);
        Kit.due("empty", x.other(0, 2, 6, 0), true);
        Kit.due("whole", x.other(0, 2, 5, Integer.MIN_VALUE), true);
        Kit.due("a name", x.other(0, 2, 4, 1), true);
        row(x, "changed", 1, 2, 5, 1, 2, 0, 1, Integer.MIN_VALUE, 0);
        Kit.due("the object does not know", x.value(1, 5), 0);
        Kit.due("no writing", x.outcome(0), 0);
        Kit.wrote(x, 0, 0, 1, 2, 0);
        Kit.wrote(x, 1, 0, 0, 1, 0);
        Kit.noWrite(x, 2);
    }

    public static void main(String[] args) {
        closes();
        flushes();
        order();
        deletesInOrder();
        hooks();
        rules();
        membersInOrder();
        stale();
        circles();
        room();
        fromOutside();
        Kit.finish();
    }
}
