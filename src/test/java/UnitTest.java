/** Promises 8 and 13 to 22: units and their objects. */
public final class UnitTest {
    private static final int NONE = BeeRegister.NONE;
    private static final int STAND = 0;
    private static final int LOADED = 1;
    private static final int NEW = 2;
    private static final int DROPPED = 3;
    private static final int GONE = 4;
    private static final long NO_VALUE = Long.MIN_VALUE;

    private static final String BEES = "class Site way joined { name : whole ; hives : list Hive by site owned ; } "
            + "class Hive way own { site : to Site must ; queen : to Bee ; load : small ; sort : ( log , box ) ; "
            + "f : flag ; bees : list Bee by hive ; } "
            + "class Bee { age : small ; hive : to Hive owned ; } "
            + "class Queen of Bee { line : to Queen ; x : whole ; kids : list Queen by line ; }";

    /** Site 1 with hives 1 and 2, bee 1 and queen 2 in hive 1; written by a unit that is closed. */
    private static BeeRegister written() {
        BeeRegister x = Kit.mapped(BEES);
        x.unit();
        x.make(0, 0);
        x.make(0, 1);
        x.make(0, 1);
        x.make(0, 2);
        x.make(0, 3);
        x.link(1, 0, 0);
        x.link(2, 0, 0);
        x.link(3, 1, 1);
        x.link(4, 1, 1);
        x.put(0, 0, 70);
        x.put(1, 2, -5);
        x.put(4, 0, 9);
        Kit.due("close(0, 1)", x.close(0, 1), 0);
        Kit.due("count(2)", x.count(2), 5);
        return x;
    }

    private static void opens() {
        BeeRegister x = Kit.mapped(BEES);
        for (int i = 0; i < 4; i++) {
            Kit.due("unit()", x.unit(), i);
            Kit.due("count(1)", x.count(1), i + 1);
        }
        Kit.due("fifth unit()", x.unit(), NONE);
        Kit.due("make(2, 0)", x.make(2, 0), 200);
        x.close(2, 0);
        x.close(1, 0);
        Kit.due("count(1)", x.count(1), 2);
        Kit.due("object of a closed unit", x.object(200, 0), NONE);
        Kit.due("unit()", x.unit(), 1);
        Kit.due("unit()", x.unit(), 2);
        Kit.due("nothing is left in it", x.object(200, 0), NONE);
        Kit.due("make(2, 0)", x.make(2, 0), 200);
        Kit.due("keys are not used again", x.object(200, 1), 2);
    }

    private static void makes() {
        BeeRegister x = Kit.mapped(BEES);
        Kit.due("make without a unit", x.make(0, 0), NONE);
        x.unit();
        x.unit();
        Kit.due("make(0, 2)", x.make(0, 2), 0);
        Kit.due("make(0, 3)", x.make(0, 3), 1);
        Kit.due("make(1, 2)", x.make(1, 2), 100);
        Kit.due("make(0, 0)", x.make(0, 0), 2);
        Kit.due("make(0, 4)", x.make(0, 4), NONE);
        Kit.due("make(0, -1)", x.make(0, -1), NONE);
        Kit.due("make(2, 0)", x.make(2, 0), NONE);
        Kit.due("make(-1, 0)", x.make(-1, 0), NONE);
        Kit.due("make(4, 0)", x.make(4, 0), NONE);
        Kit.due("key", x.object(0, 1), 1);
        Kit.due("a family counts its own", x.object(1, 1), 2);
        Kit.due("over all units", x.object(100, 1), 3);
        Kit.due("another family", x.object(2, 1), 1);
        Kit.state(x, 1, NEW);
        Kit.due("class", x.object(1, 2), 3);
        Kit.due("version", x.object(1, 3), 0);
        Kit.due("object(1, 4)", x.object(1, 4), NONE);
        Kit.due("object(1, -1)", x.object(1, -1), NONE);
        Kit.due("object(3, 0)", x.object(3, 0), NONE);
        Kit.due("object(-1, 0)", x.object(-1, 0), NONE);
        Kit.due("object(101, 0)", x.object(101, 0), NONE);
        Kit.due("object(400, 0)", x.object(400, 0), NONE);
        Kit.due("object(MIN, 0)", x.object(Integer.MIN_VALUE, 0), NONE);
        Kit.due("object(MAX, 0)", x.object(Integer.MAX_VALUE, 0), NONE);
        for (int i = 3; i < 60; i++) {
            Kit.due("make(0, 0)", x.make(0, 0), i);
        }
        Kit.due("make in a full unit", x.make(0, 0), -2);
        Kit.due("no class in a full unit", x.make(0, 9), NONE);
        Kit.due("object(60, 0)", x.object(60, 0), NONE);
        x.make(1, 0);
        Kit.due("no key was used", x.object(101, 1), 59);
    }

    private static void values() {
        BeeRegister x = Kit.mapped(BEES);
        x.unit();
        x.unit();
        x.make(0, 1);
        for (int m = 0; m < 2; m++) {
            Kit.due("an empty reference", x.value(0, m), NONE);
        }
        for (int m = 2; m < 5; m++) {
            Kit.due("a value at first", x.value(0, m), 0);
        }
        Kit.due("a list", x.value(0, 5), NO_VALUE);
        Kit.due("no member", x.value(0, 6), NO_VALUE);
        Kit.due("no member", x.value(0, -1), NO_VALUE);
        Kit.due("no object", x.value(1, 0), NO_VALUE);
        Kit.due("put -128", x.put(0, 2, -128), true);
        Kit.due("value", x.value(0, 2), -128);
        Kit.due("put 127", x.put(0, 2, 127), true);
        Kit.due("put 128", x.put(0, 2, 128), false);
        Kit.due("put -129", x.put(0, 2, -129), false);
        Kit.due("value", x.value(0, 2), 127);
        Kit.due("put name 1", x.put(0, 3, 1), true);
        Kit.due("put name 2", x.put(0, 3, 2), false);
        Kit.due("put name -1", x.put(0, 3, -1), false);
        Kit.due("value", x.value(0, 3), 1);
        Kit.due("put flag 1", x.put(0, 4, 1), true);
        Kit.due("put flag 2", x.put(0, 4, 2), false);
        Kit.due("put flag -1", x.put(0, 4, -1), false);
        Kit.due("put flag 0", x.put(0, 4, 0), true);
        Kit.due("put into a reference", x.put(0, 0, 1), false);
        Kit.due("put into a list", x.put(0, 5, 1), false);
        Kit.due("put into no member", x.put(0, 6, 1), false);
        Kit.due("put into no member", x.put(0, -1, 1), false);
        Kit.due("put into no object", x.put(7, 2, 1), false);
        x.make(0, 0);
        Kit.due("put MIN", x.put(1, 0, Integer.MIN_VALUE), true);
        Kit.due("value", x.value(1, 0), Integer.MIN_VALUE);
        Kit.due("put MAX", x.put(1, 0, Integer.MAX_VALUE), true);
        Kit.due("value", x.value(1, 0), Integer.MAX_VALUE);
    }

    private static void links() {
        BeeRegister x = Kit.mapped(BEES);
        x.unit();
        x.unit();
        x.make(0, 1);
        x.make(0, 0);
        x.make(0, 2);
        x.make(0, 3);
        x.make(1, 0);
        Kit.due("link", x.link(0, 0, 1), true);
        Kit.due("it leads there", x.value(0, 0), 1);
        Kit.due("to an heir", x.link(0, 1, 3), true);
        Kit.due("it leads there", x.value(0, 1), 3);
        Kit.due("to a class that is not the one told", x.link(0, 1, 1), false);
        Kit.due("to the class above", x.link(3, 2, 2), false);
        Kit.due("to itself", x.link(3, 2, 3), true);
        Kit.due("it leads there", x.value(3, 2), 3);
        Kit.due("to another unit's", x.link(0, 0, 100), false);
        Kit.due("to none", x.link(0, 0, 9), false);
        Kit.due("to none", x.link(0, 0, -2), false);
        Kit.due("to none", x.link(0, 0, Integer.MIN_VALUE), false);
        Kit.due("a value", x.link(0, 2, 1), false);
        Kit.due("a list", x.link(0, 5, 2), false);
        Kit.due("no member", x.link(0, 6, 2), false);
        Kit.due("no member", x.link(0, -1, 2), false);
        Kit.due("no object", x.link(8, 0, 1), false);
        Kit.due("still", x.value(0, 0), 1);
        Kit.due("empty", x.link(0, 0, NONE), true);
        Kit.due("value", x.value(0, 0), NONE);
        x.drop(1);
        Kit.state(x, 1, GONE);
        Kit.due("to one that is gone", x.link(0, 0, 1), false);
        x.link(0, 0, NONE);
        x.link(0, 1, 2);
        x.drop(2);
        Kit.due("a reference to one that is gone", x.value(0, 1), 2);
    }

    private static void finds() {
        BeeRegister x = written();
        Kit.due("find without a unit", x.find(0, 0, 1), NONE);
        x.unit();
        Kit.due("no class", x.find(0, 4, 1), NONE);
        Kit.due("no class", x.find(0, -1, 1), NONE);
        Kit.due("no row", x.find(0, 0, 2), NONE);
        Kit.due("no row", x.find(0, 0, 0), NONE);
        Kit.due("no row", x.find(0, 0, -1), NONE);
        Kit.due("the row is of the class above", x.find(0, 3, 1), NONE);
        Kit.due("nothing was met", x.object(0, 0), NONE);
        Kit.due("of an heir", x.find(0, 2, 2), 0);
        Kit.due("again", x.find(0, 3, 2), 0);
        Kit.state(x, 0, LOADED);
        Kit.due("class", x.object(0, 2), 3);
        Kit.due("version", x.object(0, 3), 1);
        Kit.due("loads", x.loads(0), 1);
        Kit.due("its hive", x.value(0, 1), 1);
        Kit.state(x, 1, STAND);
        Kit.due("key of a stand", x.object(1, 1), 1);
        Kit.state(x, 1, STAND);
        Kit.due("another class", x.find(0, 0, 1), 2);
        Kit.due("the stand is found", x.find(0, 1, 1), 1);
        Kit.state(x, 1, LOADED);
        Kit.due("loads", x.loads(0), 3);
        x.make(0, 2);
        Kit.due("a new one", x.find(0, 2, 3), 3);
        Kit.due("a new one, as an heir", x.find(0, 3, 3), NONE);
        Kit.state(x, 3, NEW);
        x.drop(3);
        Kit.due("one that is gone", x.find(0, 2, 3), NONE);
        x.drop(0);
        Kit.due("one that is dropped", x.find(0, 2, 2), NONE);
        x.flush(0);
        Kit.due("loads(1)", x.loads(1), NONE);
        Kit.due("loads(-1)", x.loads(-1), NONE);
        Kit.due("loads(4)", x.loads(4), NONE);
        x.unit();
        for (int i = 0; i < 59; i++) {
            x.make(1, 0);
        }
        Kit.due("the last room", x.find(1, 2, 1), 159);
        Kit.due("no room", x.find(1, 1, 2), -2);
        Kit.due("no room and no row", x.find(1, 1, 9), NONE);
        Kit.due("no room is needed", x.find(1, 2, 1), 159);
        Kit.due("a reference without room", x.value(159, 1), -2);
    }

    private static void stands() {
        BeeRegister x = written();
        x.unit();
        x.find(0, 3, 2);
        x.value(0, 1);
        Kit.due("loads", x.loads(0), 1);
        Kit.due("a value loads", x.value(1, 2), -5);
        Kit.state(x, 1, LOADED);
        Kit.due("loads", x.loads(0), 2);
        Kit.due("site", x.value(1, 0), 2);
        Kit.state(x, 2, STAND);
        Kit.due("its class loads", x.object(2, 2), 0);
        Kit.state(x, 2, LOADED);
        x.close(0, 0);
        x.unit();
        x.find(0, 1, 1);
        x.value(0, 0);
        Kit.due("its version loads", x.object(1, 3), 1);
        Kit.state(x, 1, LOADED);
        x.close(0, 0);
        x.unit();
        x.find(0, 1, 1);
        x.value(0, 0);
        Kit.due("a list loads", x.size(1, 1), 2);
        Kit.state(x, 1, LOADED);
        Kit.due("loads", x.loads(0), 2);
        x.close(0, 0);
        x.unit();
        x.find(0, 1, 1);
        x.value(0, 0);
        Kit.due("put loads", x.put(1, 0, 71), true);
        Kit.state(x, 1, LOADED);
        Kit.due("version", x.object(1, 3), 1);
        Kit.due("flush", x.flush(0), 0);
        Kit.due("version", x.object(1, 3), 2);
        x.close(0, 0);
        x.unit();
        x.find(0, 1, 2);
        x.value(0, 0);
        x.item(1, 1, 0);
        x.find(0, 2, 1);
        Kit.state(x, 2, STAND);
        Kit.due("link loads the other one, too", x.link(3, 1, 2), true);
        Kit.state(x, 2, LOADED);
        x.close(0, 0);
        x.unit();
        x.find(0, 1, 1);
        x.value(0, 0);
        Kit.state(x, 1, STAND);
        Kit.due("no reference", x.link(0, 2, 1), false);
        Kit.state(x, 1, STAND);
        Kit.due("link to a stand of a wrong class", x.link(0, 1, 1), false);
        Kit.state(x, 1, LOADED);
        Kit.due("nothing happened", x.value(0, 1), NONE);
    }

    private static void goneStands() {
        BeeRegister x = written();
        x.unit();
        x.unit();
        x.find(1, 2, 2);
        x.find(1, 2, 1);
        x.link(101, 1, NONE);
        x.link(100, 1, NONE);
        x.find(0, 1, 1);
        x.item(0, 5, 0);
        Kit.state(x, 1, STAND);
        x.drop(101);
        Kit.due("flush", x.flush(1), 0);
        Kit.state(x, 1, STAND);
        Kit.due("find without the row", x.find(0, 2, 1), NONE);
        Kit.due("its key", x.object(1, 1), 1);
        Kit.due("its class", x.object(1, 2), NONE);
        Kit.state(x, 1, GONE);
        Kit.due("its version", x.object(1, 3), NONE);
        Kit.due("its value", x.value(1, 0), NO_VALUE);
        Kit.due("put", x.put(1, 0, 1), false);
        Kit.due("link", x.link(1, 1, 0), false);
        Kit.due("size", x.size(1, 1), NONE);
        Kit.due("drop", x.drop(1), NONE);
        Kit.due("only hive 1 was loaded", x.loads(0), 1);
    }

    private static void lists() {
        BeeRegister x = written();
        x.unit();
        x.find(0, 0, 1);
        Kit.due("size", x.size(0, 1), 2);
        Kit.due("not a list", x.size(0, 0), NONE);
        Kit.due("no member", x.size(0, 2), NONE);
        Kit.due("no member", x.size(0, -1), NONE);
        Kit.due("no object", x.size(5, 1), NONE);
        Kit.due("item of no list", x.item(0, 0, 0), NONE);
        Kit.due("item of no object", x.item(5, 1, 0), NONE);
        Kit.due("item -1", x.item(0, 1, -1), NONE);
        Kit.due("item 2", x.item(0, 1, 2), NONE);
        Kit.due("item 1", x.item(0, 1, 1), 1);
        Kit.state(x, 1, STAND);
        Kit.due("item 1 again", x.item(0, 1, 1), 1);
        Kit.due("its key", x.object(1, 1), 2);
        Kit.due("a new hive", x.make(0, 1), 2);
        Kit.due("not in it yet", x.size(0, 1), 2);
        x.link(2, 0, 0);
        Kit.due("in it", x.size(0, 1), 3);
        Kit.due("item 2", x.item(0, 1, 2), 2);
        Kit.due("item 0", x.item(0, 1, 0), 3);
        Kit.due("it leaves", x.link(3, 0, NONE), true);
        Kit.due("size", x.size(0, 1), 2);
        Kit.due("item 0", x.item(0, 1, 0), 1);
        x.unit();
        x.find(1, 0, 1);
        Kit.due("the other unit sees the rows", x.size(100, 1), 2);
        Kit.due("drop", x.drop(1), 1);
        Kit.due("a dropped one is not in it", x.size(0, 1), 1);
        Kit.due("heirs are in it", x.size(3, 5), 2);
        Kit.due("a list of a new one", x.size(2, 5), 0);
        for (int i = 0; i < 60; i++) {
            x.make(0, 0);
        }
        Kit.due("no room", x.item(3, 5, 0), -2);
        Kit.due("none such", x.item(3, 5, 2), NONE);
        Kit.due("no room is needed", x.item(0, 1, 0), 2);
    }

    /** Objects stand between rows, by their keys. */
    private static void listsInOrder() {
        BeeRegister x = Kit.mapped(BEES);
        x.unit();
        x.make(0, 0);
        for (int i = 1; i < 7; i++) {
            x.make(0, 1);
            x.link(i, 0, 0);
        }
        Kit.due("close", x.close(0, 1), 0);
        x.unit();
        x.find(0, 1, 5);
        x.find(0, 1, 1);
        x.find(0, 1, 3);
        x.find(0, 0, 1);
        x.make(0, 1);
        x.link(4, 0, 3);
        Kit.due("size", x.size(3, 1), 7);
        for (int i = 0; i < 7; i++) {
            Kit.due("key " + i, x.object(x.item(3, 1, i), 1), i + 1);
        }
        Kit.due("the first one", x.item(3, 1, 0), 1);
        Kit.due("the fifth one", x.item(3, 1, 4), 0);
    }

    private static void drops() {
        BeeRegister x = written();
        x.unit();
        Kit.due("no object", x.drop(0), NONE);
        x.find(0, 0, 1);
        Kit.due("a site with its hives", x.drop(0), 3);
        Kit.due("they were loaded", x.loads(0), 3);
        for (int o = 0; o < 3; o++) {
            Kit.state(x, o, DROPPED);
            Kit.due("again", x.drop(o), NONE);
            Kit.due("value", x.value(o, 0), NO_VALUE);
            Kit.due("put", x.put(o, 2, 0), false);
            Kit.due("link", x.link(o, 1, NONE), false);
            Kit.due("key", x.object(o, 1), o == 0 ? 1 : o);
            Kit.due("class", x.object(o, 2), o == 0 ? 0 : 1);
            Kit.due("version", x.object(o, 3), 1);
        }
        Kit.due("size", x.size(0, 1), NONE);
        Kit.due("item", x.item(0, 1, 0), NONE);
        x.make(0, 2);
        Kit.due("link to a dropped one", x.link(3, 1, 1), false);
        x.close(0, 0);

        x.unit();
        x.find(0, 2, 1);
        x.make(0, 0);
        x.make(0, 1);
        x.link(2, 0, 1);
        x.link(0, 1, 2);
        Kit.due("a loaded one and a new one", x.drop(0), 2);
        Kit.state(x, 0, DROPPED);
        Kit.state(x, 1, NEW);
        Kit.state(x, 2, GONE);
        Kit.due("key of one that is gone", x.object(2, 1), 3);
        Kit.due("class of one that is gone", x.object(2, 2), NONE);
        Kit.due("version of one that is gone", x.object(2, 3), NONE);
        Kit.due("a new one alone", x.drop(1), 1);
        Kit.state(x, 1, GONE);
        x.close(0, 0);

        x.unit();
        x.find(0, 0, 1);
        for (int i = 0; i < 58; i++) {
            x.make(0, 0);
        }
        Kit.due("no room for the second hive", x.drop(0), -2);
        Kit.state(x, 0, LOADED);
        Kit.state(x, 59, LOADED);
        Kit.due("what was met stays so", x.object(59, 1), 1);
        Kit.due("loads", x.loads(0), 2);
        Kit.due("the hive alone", x.drop(59), 1);
        Kit.state(x, 59, DROPPED);
        Kit.due("still no room", x.drop(0), -2);
    }

    /** The row is walked one behind the other, and a circle has an end. */
    private static void dropsInCircles() {
        BeeRegister x = Kit.mapped("class A { next : to A owned ; kids : list A by next owned ; } "
                + "class B { a : to A owned ; b : to A ; }");
        x.unit();
        for (int i = 0; i < 5; i++) {
            x.make(0, 0);
        }
        for (int i = 0; i < 4; i++) {
            x.link(i, 0, (i + 1) % 4);
        }
        x.link(4, 0, 4);
        x.make(0, 1);
        x.make(0, 1);
        x.link(5, 0, 2);
        x.link(6, 1, 2);
        Kit.due("flush", x.flush(0), 0);
        Kit.due("one that leads to itself", x.drop(4), 1);
        Kit.due("one that owns nothing", x.drop(6), 1);
        Kit.due("the circle and what leads in", x.drop(5), 5);
        Kit.state(x, 3, DROPPED);
        Kit.due("flush", x.flush(0), 1);
        Kit.came(x, 1, 0, 1, 0, 2);
        x.close(0, 0);
        x.unit();
        x.find(0, 0, 5);
        Kit.due("drop", x.drop(0), 1);
        Kit.due("its own reference does not keep it", x.flush(0), 0);
        Kit.state(x, 0, GONE);
    }

    public static void main(String[] args) {
        opens();
        makes();
        values();
        links();
        finds();
        stands();
        goneStands();
        lists();
        listsInOrder();
        drops();
        dropsInCircles();
        Kit.finish();
    }
}
