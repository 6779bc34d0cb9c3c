/** The document's limits, all filled: twelve classes, sixteen members, sixty objects and rows, a whole tape. */
public final class LimitsTest {
    private static final int NONE = BeeRegister.NONE;

    private static void wholeTape() {
        for (String sign : new String[] {"(", ")", "a ", "1 ", "_", "a", "1", "{", " "}) {
            String text = sign.repeat(3000 / sign.length());
            boolean blank = sign.equals(" ");
            boolean none = sign.equals("_") || sign.equals("a") || sign.equals("1");
            BeeRegister x = new BeeRegister();
            Kit.due("map() of " + sign, Kit.map(x, text), blank ? 0 : NONE);
            Kit.due("fault(0)", x.fault(0), blank ? 0 : none ? 1 : 2);
            Kit.due("fault(1)", x.fault(1), blank ? NONE : 0);
            x.unit();
            Kit.due("ask() of " + sign, Kit.ask(x, 0, text), NONE);
            Kit.due("fault(0)", x.fault(0), none ? 1 : sign.equals("a ") ? 3 : 2);
            Kit.due("fault(1)", x.fault(1), blank ? 3000 : 0);
        }
    }

    private static void manyNames() {
        String letters = "abcdefghijklmnopqrstuvwxyzABCDEFGHIJKLMNOPQRSTUVWXYZ";
        StringBuilder list = new StringBuilder();
        for (int i = 0; i < 52; i++) {
            list.append(letters.charAt(i)).append(',');
            for (int k = 0; k < 17; k++) {
                list.append(letters.charAt(i)).append(letters.charAt(k)).append(',');
            }
        }
        String names = list.toString().replace("of,", "").replace("to,", "");
        int many = names.split(",").length;
        BeeRegister x = Kit.mapped("class A{a:(" + names.substring(0, names.length() - 1) + ");}");
        Kit.due("names", x.member(0, 0, 1), many);
        x.unit();
        x.make(0, 0);
        Kit.due("the last name", x.put(0, 0, many - 1), true);
        Kit.due("none behind it", x.put(0, 0, many), false);
        Kit.told(x, 0, "A where a = Zq and a > Zp", 1);
    }

    private static void allMembers() {
        StringBuilder text = new StringBuilder();
        for (int c = 0; c < 12; c++) {
            text.append("class C").append(c).append('{');
            for (int m = 0; m < 16; m++) {
                text.append('m').append(m).append(m == 15 ? ":to C0;" : ":whole;");
            }
            text.append('}');
        }
        BeeRegister x = Kit.mapped(text.toString());
        Kit.due("classes", x.count(0), 12);
        Kit.due("members", x.look(11, 3), 16);
        x.unit();
        for (int c = 11; c >= 0; c--) {
            int o = x.make(0, c);
            x.put(o, 14, c);
        }
        for (int o = 0; o < 12; o++) {
            Kit.due("link", x.link(o, 15, 11), true);
        }
        Kit.due("flush", x.flush(0), 0);
        for (int c = 0; c < 12; c++) {
            Kit.due("cell", x.cell(c, 1, 16), c);
            Kit.due("cell", x.cell(c, 1, 17), 1);
            Kit.due("no cell", x.cell(c, 1, 18), Long.MIN_VALUE);
        }
        x.drop(11);
        Kit.due("the first row that leads to it", x.flush(0), 1);
        Kit.came(x, 1, 0, 1, 15, 2);
    }

    private static void allAbove() {
        StringBuilder text = new StringBuilder("class C0 { n : whole ; u : small unique ; r : to C0 ; l : list C11 by r ; "
                + "hook insert n + 1 ; hook insert n + 1 ; hook insert n + 1 ; hook insert n + 1 ; } ");
        for (int c = 1; c < 12; c++) {
            text.append("class C").append(c).append(" of C").append(c - 1).append(" { m").append(c)
                    .append(" : whole ; hook insert m").append(c).append(" + ").append(c)
                    .append(" ; hook insert n + 1 ; hook insert n + 1 ; hook insert n + 1 ; } ");
        }
        BeeRegister x = Kit.mapped(text.toString());
        Kit.due("members", x.look(11, 3), 15);
        Kit.due("root", x.look(11, 1), 0);
        x.unit();
        x.make(0, 11);
        Kit.due("it is the first class", x.link(0, 2, 0), true);
        Kit.due("its list", x.size(0, 3), 1);
        Kit.due("flush", x.flush(0), 0);
        Kit.due("all hooks", x.value(0, 0), 4 + 3 * 11);
        Kit.due("the last hook", x.value(0, 14), 11);
        Kit.due("the last column", x.cell(0, 1, 15), 11);
        Kit.due("no column", x.cell(0, 1, 16), Long.MIN_VALUE);
        x.make(0, 0);
        Kit.due("unique over all", x.flush(0), 1);
        Kit.came(x, 1, 0, 2, 1, 1);
        x.put(1, 1, 7);
        Kit.told(x, 0, "C0", 1, 2);
        Kit.told(x, 0, "C11", 1);
        Kit.due("as the first class", x.find(0, 0, 1), 0);
        Kit.due("as the last class", x.find(0, 11, 2), NONE);
        Kit.due("an heir of sixteen", Kit.map(x, "class A { a:flag; b:flag; c:flag; d:flag; e:flag; f:flag; g:flag; "
                + "h:flag; i:flag; j:flag; k:flag; l:flag; m:flag; n:flag; o:flag; p:flag; } class B of A { }"), 2);
        Kit.due("members", x.look(1, 3), 16);
    }

    /** Each object leads to the next one and the one ahead: all but the last one are put off. */
    static BeeRegister chainOfSixty() {
        BeeRegister x = Kit.mapped("class A { next : to A owned ; back : to A ; }");
        x.unit();
        for (int i = 0; i < 60; i++) {
            x.make(0, 0);
        }
        for (int i = 0; i < 60; i++) {
            x.link(i, 0, i < 59 ? i + 1 : NONE);
            x.link(i, 1, i - 1);
        }
        return x;
    }

    private static void manyWrites() {
        BeeRegister x = chainOfSixty();
        Kit.due("flush", x.flush(0), 0);
        for (int i = 0; i < 60; i += 6) {
            Kit.wrote(x, i, 0, 0, i + 1, 0);
            Kit.wrote(x, 60 + i, 1, 0, i + 1, 1);
        }
        Kit.wrote(x, 118, 1, 0, 59, 1);
        Kit.due("no more", x.write(119, 0), NONE);
        for (int i = 0; i < 60; i++) {
            x.link(i, 1, NONE);
        }
        Kit.due("all of them", x.drop(0), 60);
        Kit.due("the row still has its reference back", x.flush(0), 1);
        Kit.came(x, 1, 0, 1, 1, 2);
    }

    private static void lastFamily() {
        StringBuilder text = new StringBuilder();
        for (int c = 0; c < 11; c++) {
            text.append("class C").append(c).append(" { } ");
        }
        BeeRegister x = Kit.mapped(text + "class L { next : to L ; l : list L by next owned ; }");
        x.unit();
        for (int i = 0; i < 60; i++) {
            x.make(0, 11);
            x.link(i, 0, 0);
        }
        Kit.due("flush", x.flush(0), 0);
        Kit.due("list", x.size(0, 1), 60);
        x.unit();
        x.find(1, 11, 1);
        Kit.due("rows in a list", x.size(100, 1), 60);
        x.make(1, 11);
        x.link(101, 0, 100);
        Kit.due("and a new one", x.size(100, 1), 61);
        Kit.due("the new one", x.item(100, 1, 60), 101);
        Kit.due("no room for all", x.drop(100), -2);
        x.drop(101);
        Kit.due("flush", x.flush(1), 0);
        Kit.due("all", Kit.ask(x, 0, "L where not empty next . next . next"), 60);
        Kit.due("found(59)", x.found(59), 60);
        Kit.due("found(60)", x.found(60), NONE);
        x.drop(59);
        Kit.due("the last row", x.flush(0), 0);
        x.unit();
        x.find(2, 11, 1);
        Kit.due("is not in the list", x.size(200, 1), 59);
        Kit.due("dropped", x.drop(0), 59);
        Kit.due("flush", x.flush(0), 0);
        Kit.wrote(x, 58, 2, 11, 1, 0);
        Kit.due("rows", x.count(2), 0);
    }

    /** Nothing of what an earlier unit dropped is left in a later one. */
    private static void unitsAgain() {
        BeeRegister x = Kit.mapped("class A { l : list A by a owned ; a : to A ; }");
        x.unit();
        for (int i = 0; i < 3; i++) {
            x.make(0, 0);
            x.link(i, 1, i == 0 ? NONE : 0);
        }
        Kit.due("close", x.close(0, 1), 0);
        for (int i = 0; i < 3; i++) {
            x.unit();
            x.find(0, 0, 1);
            Kit.due("drop", x.drop(0), 3);
            Kit.due("close", x.close(0, 0), 0);
        }
    }

    public static void main(String[] args) {
        wholeTape();
        manyNames();
        allMembers();
        allAbove();
        manyWrites();
        lastFamily();
        unitsAgain();
        Kit.finish();
    }
}
