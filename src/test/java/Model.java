import java.util.ArrayList;
import java.util.HashMap;
import java.util.HashSet;
import java.util.List;
import java.util.Map;
import java.util.Set;
import java.util.TreeMap;
import java.util.TreeSet;

/** The document once more, told slowly with maps and trees: the random test holds the class against it. */
final class Model {
    static final int NONE = -1;

    private static final Set<String> KEYWORDS = Set.of("class", "of", "way", "one", "joined", "own", "to", "list",
            "by", "must", "owned", "unique", "whole", "small", "flag", "hook", "insert", "change", "where", "or",
            "and", "not", "empty");

    private static final class Fault extends RuntimeException {
        private static final long serialVersionUID = 1L;
        final int number;
        final int place;

        Fault(int number, int place) {
            this.number = number;
            this.place = place;
        }
    }

    private static final class Break extends RuntimeException {
        private static final long serialVersionUID = 1L;
        final int[] what;

        Break(int... what) {
            this.what = what;
        }
    }

    private record Token(char sort, String text, int place) {
        boolean is(String what) {
            return (sort == 'k' || sort == 's') && text.equals(what);
        }
    }

    private static final class Cls {
        String name;
        int number;
        Cls of;
        int way;
        final List<Mem> own = new ArrayList<>();
        final List<Hook> hooks = new ArrayList<>();

        Cls root() {
            return of == null ? this : of.root();
        }

        boolean is(Cls c) {
            return this == c || of != null && of.is(c);
        }

        List<Mem> all() {
            List<Mem> all = of == null ? new ArrayList<>() : of.all();
            all.addAll(own);
            return all;
        }

        Mem named(String s) {
            for (Mem m : all()) {
                if (m.name.equals(s)) {
                    return m;
                }
            }
            return null;
        }

        List<Hook> allHooks() {
            List<Hook> all = of == null ? new ArrayList<>() : of.allHooks();
            all.addAll(hooks);
            return all;
        }
    }

    private static final class Mem {
        String name;
        Cls teller;
        String type;
        final List<String> names = new ArrayList<>();
        boolean unique;
        boolean must;
        boolean owned;
        Token targetToken;
        Token byToken;
        Cls target;
        Mem by;

        boolean ref() {
            return type.equals("to");
        }

        boolean list() {
            return type.equals("list");
        }

        boolean fits(int v) {
            return switch (type) {
                case "whole" -> true;
                case "small" -> v == (byte) v;
                case "flag" -> v == 0 || v == 1;
                case "names" -> v >= 0 && v < names.size();
                default -> false;
            };
        }
    }

    private record Hook(boolean insert, Mem mem, int plus) {
    }

    private static final class Row {
        int key;
        Cls cls;
        int version;
        Map<Mem, Integer> vals = new HashMap<>();

        Row copy() {
            Row r = new Row();
            r.key = key;
            r.cls = cls;
            r.version = version;
            r.vals = new HashMap<>(vals);
            return r;
        }
    }

    private static final class Obj {
        int number;
        String state;
        Cls fam;
        int key;
        Cls cls;
        int version;
        Map<Mem, Integer> vals = new HashMap<>();
        Map<Mem, Integer> copy = new HashMap<>();
        boolean inserted;
        Set<Mem> putOff = new HashSet<>();

        boolean live() {
            return state.equals("NEW") || state.equals("LOADED");
        }

        List<Mem> changed() {
            List<Mem> list = new ArrayList<>();
            for (Mem m : cls.all()) {
                if (!m.list() && vals.get(m).intValue() != copy.get(m).intValue()) {
                    list.add(m);
                }
            }
            return list;
        }
    }

    private static final class Work {
        final int number;
        final List<Obj> objs = new ArrayList<>();
        int loads;

        Work(int number) {
            this.number = number;
        }
    }

    private interface Term {
        int truth(Row r);
    }

    private final StringBuilder tape = new StringBuilder();
    private List<Cls> classes = new ArrayList<>();
    private Map<Cls, TreeMap<Integer, Row>> rows = new HashMap<>();
    private Map<Cls, Integer> keys = new HashMap<>();
    private final Work[] units = new Work[4];
    private Fault fault;
    private int[] outcome = {0, NONE, NONE, NONE, NONE};
    private List<int[]> writes = new ArrayList<>();
    private List<Integer> found = new ArrayList<>();

    private List<Token> tokens;
    private int at;
    private List<Cls> reading;

    int feed(int a, int b, int c, int d, int e) {
        if (tape.length() + 20 > 3000) {
            return NONE;
        }
        for (int n : new int[] {a, b, c, d, e}) {
            tape.append((char) (n >>> 24)).append((char) (n >>> 16 & 255)).append((char) (n >>> 8 & 255))
                    .append((char) (n & 255));
        }
        return tape.length();
    }

    int end(int n) {
        if (n < 0 || n > tape.length()) {
            return NONE;
        }
        tape.setLength(n);
        return n;
    }

    // Texts

    private void scan() {
        String s = tape.toString();
        tape.setLength(0);
        tokens = new ArrayList<>();
        at = 0;
        int i = 0;
        while (i < s.length()) {
            char c = s.charAt(i);
            int from = i;
            i++;
            if (c == 9 || c == 10 || c == 13 || c == 32) {
                continue;
            }
            if (String.valueOf(c).matches("[A-Za-z]")) {
                while (i < s.length() && String.valueOf(s.charAt(i)).matches("[A-Za-z0-9]")) {
                    i++;
                }
                String w = s.substring(from, i);
                tokens.add(new Token(w.length() > 8 ? 'b' : KEYWORDS.contains(w) ? 'k' : 'w', w, from));
            } else if (String.valueOf(c).matches("[0-9]")) {
                while (i < s.length() && String.valueOf(s.charAt(i)).matches("[0-9]")) {
                    i++;
                }
                String w = s.substring(from, i);
                tokens.add(new Token(w.length() > 6 ? 'b' : 'n', w, from));
            } else {
                tokens.add(new Token("{}():;,.=<>+-".indexOf(c) >= 0 ? 's' : 'b', String.valueOf(c), from));
            }
        }
        tokens.add(new Token('e', "", s.length()));
    }

    private Token now() {
        return tokens.get(at);
    }

    private Fault wrong() {
        return new Fault(now().sort == 'b' ? 1 : 2, now().place);
    }

    private boolean take(String what) {
        if (now().is(what)) {
            at++;
            return true;
        }
        return false;
    }

    private void need(String what) {
        if (!take(what)) {
            throw wrong();
        }
    }

    private Token name() {
        if (now().sort != 'w') {
            throw wrong();
        }
        return tokens.get(at++);
    }

    private Cls cls(List<Cls> in, String name) {
        for (Cls c : in) {
            if (c.name.equals(name)) {
                return c;
            }
        }
        return null;
    }

    private void check(boolean ok, int number, Token t) {
        if (!ok) {
            throw new Fault(number, t.place);
        }
    }

    int map() {
        fault = null;
        scan();
        try {
            reading = new ArrayList<>();
            while (now().sort != 'e') {
                readClass();
            }
            for (Cls c : reading) {
                for (Mem m : c.own) {
                    if (m.targetToken != null) {
                        m.target = cls(reading, m.targetToken.text);
                    }
                }
            }
            for (Cls c : reading) {
                for (Mem m : c.own) {
                    if (m.targetToken != null) {
                        check(m.target != null, 5, m.targetToken);
                    }
                    if (m.byToken != null) {
                        Mem by = m.target.named(m.byToken.text);
                        check(by != null && by.ref() && by.target != null && c.is(by.target), 5, m.byToken);
                        m.by = by;
                    }
                }
            }
        } catch (Fault f) {
            fault = f;
            return NONE;
        }
        classes = reading;
        rows = new HashMap<>();
        keys = new HashMap<>();
        for (Cls c : classes) {
            if (c.of == null) {
                rows.put(c, new TreeMap<>());
                keys.put(c, 0);
            }
        }
        for (int i = 0; i < 4; i++) {
            units[i] = null;
        }
        found = new ArrayList<>();
        return classes.size();
    }

    private void readClass() {
        need("class");
        Token t = name();
        check(cls(reading, t.text) == null, 3, t);
        check(reading.size() < 12, 4, t);
        Cls c = new Cls();
        c.name = t.text;
        c.number = reading.size();
        if (take("of")) {
            Token p = name();
            c.of = cls(reading, p.text);
            check(c.of != null, 3, p);
            c.way = c.of.way;
        } else if (take("way")) {
            if (take("one")) {
                c.way = 0;
            } else if (take("joined")) {
                c.way = 1;
            } else {
                need("own");
                c.way = 2;
            }
        }
        need("{");
        reading.add(c);
        while (!take("}")) {
            Token h = now();
            if (take("hook")) {
                check(c.hooks.size() < 4, 4, h);
                boolean insert = take("insert");
                if (!insert) {
                    need("change");
                }
                Token n = name();
                Mem m = c.named(n.text);
                check(m != null && m.type.equals("whole"), 3, n);
                need("+");
                if (now().sort != 'n') {
                    throw wrong();
                }
                c.hooks.add(new Hook(insert, m, Integer.parseInt(now().text)));
                at++;
                need(";");
            } else {
                readMember(c);
            }
        }
    }

    private void readMember(Cls c) {
        Token n = name();
        check(c.named(n.text) == null, 3, n);
        check(c.all().size() < 16, 4, n);
        Mem m = new Mem();
        m.name = n.text;
        m.teller = c;
        need(":");
        if (take("to")) {
            m.type = "to";
            m.targetToken = name();
            m.must = take("must");
            m.owned = take("owned");
        } else if (take("list")) {
            m.type = "list";
            m.targetToken = name();
            need("by");
            m.byToken = name();
            m.owned = take("owned");
        } else {
            if (take("(")) {
                m.type = "names";
                do {
                    Token v = name();
                    check(!m.names.contains(v.text), 3, v);
                    m.names.add(v.text);
                } while (take(","));
                need(")");
            } else if (take("whole")) {
                m.type = "whole";
            } else if (take("small")) {
                m.type = "small";
            } else {
                need("flag");
                m.type = "flag";
            }
            m.unique = take("unique");
        }
        need(";");
        c.own.add(m);
    }

    int fault(int what) {
        if (what == 0) {
            return fault == null ? 0 : fault.number;
        }
        return what == 1 && fault != null ? fault.place : NONE;
    }

    int look(int c, int what) {
        if (c < 0 || c >= classes.size()) {
            return NONE;
        }
        Cls k = classes.get(c);
        return switch (what) {
            case 0 -> k.of == null ? NONE : k.of.number;
            case 1 -> k.root().number;
            case 2 -> k.way;
            case 3 -> k.all().size();
            default -> NONE;
        };
    }

    int member(int c, int m, int what) {
        if (c < 0 || c >= classes.size() || m < 0 || m >= classes.get(c).all().size()) {
            return NONE;
        }
        Mem k = classes.get(c).all().get(m);
        return switch (what) {
            case 0 -> List.of("whole", "small", "flag", "names", "to", "list").indexOf(k.type);
            case 1 -> k.target != null ? k.target.number : k.names.size();
            case 2 -> (k.unique ? 1 : 0) + (k.must ? 2 : 0) + (k.owned ? 4 : 0);
            case 3 -> k.list() ? k.target.all().indexOf(k.by) : NONE;
            default -> NONE;
        };
    }

    // Units

    int unit() {
        for (int i = 0; i < 4; i++) {
            if (units[i] == null) {
                units[i] = new Work(i);
                return i;
            }
        }
        return NONE;
    }

    private Work work(int unit) {
        return unit < 0 || unit > 3 ? null : units[unit];
    }

    int close(int unit, int how) {
        Work w = work(unit);
        if (w == null || how != 0 && how != 1) {
            return NONE;
        }
        if (how == 0) {
            units[unit] = null;
            return 0;
        }
        int result = write(w);
        if (result == 0) {
            units[unit] = null;
        }
        return result;
    }

    int flush(int unit) {
        Work w = work(unit);
        return w == null ? NONE : write(w);
    }

    int outcome(int what) {
        return what < 0 || what > 4 ? NONE : outcome[what];
    }

    int write(int i, int what) {
        return i < 0 || i >= writes.size() || what < 0 || what > 3 ? NONE : writes.get(i)[what];
    }

    int make(int unit, int c) {
        Work w = work(unit);
        if (w == null || c < 0 || c >= classes.size()) {
            return NONE;
        }
        if (w.objs.size() == 60) {
            return -2;
        }
        Cls k = classes.get(c);
        int key = keys.merge(k.root(), 1, Integer::sum);
        Obj o = come(w, "NEW", k.root(), key);
        o.cls = k;
        for (Mem m : k.all()) {
            o.vals.put(m, 0);
            o.copy.put(m, 0);
        }
        return o.number;
    }

    private Obj come(Work w, String state, Cls fam, int key) {
        if (w.objs.size() == 60) {
            return null;
        }
        Obj o = new Obj();
        o.number = w.number * 100 + w.objs.size();
        o.state = state;
        o.fam = fam;
        o.key = key;
        w.objs.add(o);
        return o;
    }

    private Obj have(Work w, Cls fam, int key) {
        for (Obj o : w.objs) {
            if (o.fam == fam && o.key == key) {
                return o;
            }
        }
        return null;
    }

    private Obj meet(Work w, Cls fam, int key) {
        Obj o = have(w, fam, key);
        return o == null ? come(w, "STAND", fam, key) : o;
    }

    private void load(Work w, Obj o) {
        if (!o.state.equals("STAND")) {
            return;
        }
        Row r = rows.get(o.fam).get(o.key);
        if (r == null) {
            o.state = "GONE";
            return;
        }
        o.state = "LOADED";
        o.cls = r.cls;
        o.vals = new HashMap<>(r.vals);
        o.copy = new HashMap<>(r.vals);
        o.version = r.version;
        w.loads++;
    }

    int find(int unit, int c, int key) {
        Work w = work(unit);
        if (w == null || c < 0 || c >= classes.size()) {
            return NONE;
        }
        Cls k = classes.get(c);
        Obj o = have(w, k.root(), key);
        if (o != null && (o.state.equals("DROPPED") || o.state.equals("GONE"))) {
            return NONE;
        }
        if (o != null && o.live()) {
            return o.cls.is(k) ? o.number : NONE;
        }
        Row r = rows.get(k.root()).get(key);
        if (r == null || !r.cls.is(k)) {
            return NONE;
        }
        o = meet(w, k.root(), key);
        if (o == null) {
            return -2;
        }
        load(w, o);
        return o.number;
    }

    private Obj obj(int o) {
        Work w = o < 0 ? null : work(o / 100);
        return w == null || o % 100 >= w.objs.size() ? null : w.objs.get(o % 100);
    }

    int object(int o, int what) {
        Obj x = obj(o);
        if (x == null) {
            return NONE;
        }
        switch (what) {
            case 0:
                return List.of("STAND", "LOADED", "NEW", "DROPPED", "GONE").indexOf(x.state);
            case 1:
                return x.key;
            case 2:
            case 3:
                load(work(o / 100), x);
                if (x.state.equals("GONE")) {
                    return NONE;
                }
                return what == 2 ? x.cls.number : x.version;
            default:
                return NONE;
        }
    }

    private Obj usable(int o) {
        Obj x = obj(o);
        if (x == null) {
            return null;
        }
        load(work(o / 100), x);
        return x.live() ? x : null;
    }

    private Mem mem(Obj x, int m) {
        return x == null || m < 0 || m >= x.cls.all().size() ? null : x.cls.all().get(m);
    }

    long value(int o, int m) {
        Obj x = usable(o);
        Mem k = mem(x, m);
        if (k == null || k.list()) {
            return Long.MIN_VALUE;
        }
        int v = x.vals.get(k);
        if (!k.ref()) {
            return v;
        }
        if (v == 0) {
            return NONE;
        }
        Obj to = meet(work(o / 100), k.target.root(), v);
        return to == null ? -2 : to.number;
    }

    boolean put(int o, int m, int v) {
        Obj x = usable(o);
        Mem k = mem(x, m);
        if (k == null || !k.fits(v)) {
            return false;
        }
        x.vals.put(k, v);
        return true;
    }

    boolean link(int o, int m, int other) {
        Obj x = usable(o);
        Mem k = mem(x, m);
        if (k == null || !k.ref()) {
            return false;
        }
        if (other == NONE) {
            x.vals.put(k, 0);
            return true;
        }
        if (obj(other) == null || other / 100 != o / 100) {
            return false;
        }
        Obj y = usable(other);
        if (y == null || !y.cls.is(k.target)) {
            return false;
        }
        x.vals.put(k, y.key);
        return true;
    }

    private TreeSet<Integer> listed(Work w, Obj x, Mem k) {
        TreeSet<Integer> set = new TreeSet<>();
        for (Row r : rows.get(k.target.root()).values()) {
            Obj o = have(w, k.target.root(), r.key);
            if ((o == null || o.state.equals("STAND")) && r.cls.is(k.target) && r.vals.get(k.by) == x.key) {
                set.add(r.key);
            }
        }
        for (Obj o : w.objs) {
            if (o.live() && o.cls.is(k.target) && o.vals.get(k.by) == x.key) {
                set.add(o.key);
            }
        }
        return set;
    }

    int size(int o, int m) {
        Obj x = usable(o);
        Mem k = mem(x, m);
        return k == null || !k.list() ? NONE : listed(work(o / 100), x, k).size();
    }

    int item(int o, int m, int i) {
        Obj x = usable(o);
        Mem k = mem(x, m);
        if (k == null || !k.list()) {
            return NONE;
        }
        List<Integer> list = new ArrayList<>(listed(work(o / 100), x, k));
        if (i < 0 || i >= list.size()) {
            return NONE;
        }
        Obj y = meet(work(o / 100), k.target.root(), list.get(i));
        return y == null ? -2 : y.number;
    }

    int drop(int o) {
        Obj x = usable(o);
        if (x == null) {
            return NONE;
        }
        Work w = work(o / 100);
        List<Obj> row = new ArrayList<>();
        row.add(x);
        for (int i = 0; i < row.size(); i++) {
            Obj y = row.get(i);
            for (Mem m : y.cls.all()) {
                if (!m.owned) {
                    continue;
                }
                List<Integer> led = new ArrayList<>();
                if (m.ref() && y.vals.get(m) != 0) {
                    led.add(y.vals.get(m));
                } else if (m.list()) {
                    led.addAll(listed(w, y, m));
                }
                for (int key : led) {
                    Obj z = meet(w, m.target.root(), key);
                    if (z == null) {
                        return -2;
                    }
                    load(w, z);
                    if (z.live() && !row.contains(z)) {
                        row.add(z);
                    }
                }
            }
        }
        for (Obj y : row) {
            y.state = y.state.equals("NEW") ? "GONE" : "DROPPED";
        }
        return row.size();
    }

    int loads(int unit) {
        Work w = work(unit);
        return w == null ? NONE : w.loads;
    }

    // Writing

    private int write(Work w) {
        outcome = new int[] {0, NONE, NONE, NONE, NONE};
        writes = new ArrayList<>();
        List<Obj> order = new ArrayList<>();
        for (Obj o : w.objs) {
            if (o.live() || o.state.equals("DROPPED")) {
                order.add(o);
                o.inserted = false;
                o.putOff = new HashSet<>();
            }
        }
        order.sort((a, b) -> a.cls != b.cls ? a.cls.number - b.cls.number : a.key - b.key);
        for (Obj o : order) {
            if (o.state.equals("NEW")) {
                hooks(o, true);
            }
        }
        for (Obj o : order) {
            if (o.state.equals("LOADED") && !o.changed().isEmpty()) {
                hooks(o, false);
            }
        }
        Map<Cls, TreeMap<Integer, Row>> saved = new HashMap<>();
        rows.forEach((c, t) -> {
            TreeMap<Integer, Row> copy = new TreeMap<>();
            t.forEach((k, r) -> copy.put(k, r.copy()));
            saved.put(c, copy);
        });
        Set<Obj> touched = new HashSet<>();
        try {
            insertAll(w, order, touched);
            changeAll(order, touched);
            deleteAll(order);
        } catch (Break b) {
            rows = saved;
            outcome = b.what;
            if (outcome[0] == 2) {
                units[w.number] = null;
            }
            return outcome[0];
        }
        for (Obj o : order) {
            if (o.state.equals("DROPPED")) {
                o.state = "GONE";
            } else if (touched.contains(o)) {
                o.state = "LOADED";
                o.copy = new HashMap<>(o.vals);
                o.version = rows.get(o.fam).get(o.key).version;
            }
        }
        return 0;
    }

    private void hooks(Obj o, boolean insert) {
        for (Hook h : o.cls.allHooks()) {
            if (h.insert == insert) {
                o.vals.merge(h.mem, h.plus, Integer::sum);
            }
        }
    }

    private void insertAll(Work w, List<Obj> order, Set<Obj> touched) {
        List<Obj> left = new ArrayList<>();
        for (Obj o : order) {
            if (o.state.equals("NEW")) {
                left.add(o);
            }
        }
        while (!left.isEmpty()) {
            Obj pick = null;
            for (Obj o : left) {
                if (pick == null && early(w, o, left).isEmpty()) {
                    pick = o;
                }
            }
            for (Obj o : left) {
                if (pick == null && early(w, o, left).stream().noneMatch(m -> m.must)) {
                    pick = o;
                    o.putOff = early(w, o, left);
                }
            }
            if (pick == null) {
                throw new Break(4, left.get(0).cls.number, left.get(0).key, NONE, NONE);
            }
            if (rows.get(pick.fam).size() == 60) {
                throw new Break(5, pick.cls.number, pick.key, NONE, NONE);
            }
            Row r = new Row();
            r.cls = pick.cls;
            r.key = pick.key;
            r.version = 1;
            for (Mem m : pick.cls.all()) {
                r.vals.put(m, pick.putOff.contains(m) ? 0 : pick.vals.get(m));
            }
            keepRules(r);
            rows.get(pick.fam).put(r.key, r);
            writes.add(new int[] {0, r.cls.number, r.key, 0});
            left.remove(pick);
            touched.add(pick);
        }
    }

    private Set<Mem> early(Work w, Obj o, List<Obj> left) {
        Set<Mem> set = new HashSet<>();
        for (Mem m : o.cls.all()) {
            if (m.ref() && o.vals.get(m) != 0) {
                Obj to = have(w, m.target.root(), o.vals.get(m));
                if (to != o && left.contains(to)) {
                    set.add(m);
                }
            }
        }
        return set;
    }

    private int brokenRule(Row r, Mem m) {
        int v = r.vals.get(m);
        if (m.must && v == 0) {
            return 0;
        }
        if (m.unique) {
            for (Row s : rows.get(m.teller.root()).values()) {
                if (s.key != r.key && s.vals.containsKey(m) && s.vals.get(m) == v) {
                    return 1;
                }
            }
        }
        if (m.ref() && v != 0) {
            Row to = m.target.root() == r.cls.root() && v == r.key ? r : rows.get(m.target.root()).get(v);
            if (to == null || !to.cls.is(m.target)) {
                return 2;
            }
        }
        return NONE;
    }

    private void keepRules(Row r) {
        for (Mem m : r.cls.all()) {
            if (brokenRule(r, m) != NONE) {
                throw new Break(1, r.cls.number, r.key, r.cls.all().indexOf(m), brokenRule(r, m));
            }
        }
    }

    private void changeAll(List<Obj> order, Set<Obj> touched) {
        for (Obj o : order) {
            List<Mem> columns = new ArrayList<>(o.putOff);
            if (o.state.equals("LOADED")) {
                columns = o.changed();
            }
            if (columns.isEmpty()) {
                continue;
            }
            Row r = rows.get(o.fam).get(o.key);
            if (r == null || o.state.equals("LOADED") && r.version != o.version) {
                throw new Break(2, o.cls.number, o.key, NONE, NONE);
            }
            Row s = r.copy();
            for (Mem m : columns) {
                s.vals.put(m, o.vals.get(m));
            }
            s.version++;
            keepRules(s);
            rows.get(o.fam).put(o.key, s);
            writes.add(new int[] {1, o.cls.number, o.key, columns.size()});
            touched.add(o);
        }
    }

    private int[] leader(Obj o) {
        for (Cls c : classes) {
            for (Row r : rows.get(c.root()).values()) {
                if (r.cls == c && !(c.root() == o.fam && r.key == o.key)) {
                    for (Mem m : c.all()) {
                        if (m.ref() && m.target.root() == o.fam && r.vals.get(m) == o.key) {
                            return new int[] {c.number, r.key, c.all().indexOf(m)};
                        }
                    }
                }
            }
        }
        return null;
    }

    private void deleteAll(List<Obj> order) {
        List<Obj> left = new ArrayList<>();
        for (Obj o : order) {
            if (o.state.equals("DROPPED")) {
                left.add(o);
            }
        }
        while (!left.isEmpty()) {
            Obj pick = left.get(0);
            for (int i = left.size() - 1; i >= 0; i--) {
                if (leader(left.get(i)) == null) {
                    pick = left.get(i);
                }
            }
            Row r = rows.get(pick.fam).get(pick.key);
            if (r == null || r.version != pick.version) {
                throw new Break(2, pick.cls.number, pick.key, NONE, NONE);
            }
            if (leader(pick) != null) {
                throw new Break(1, pick.cls.number, pick.key, leader(pick)[2], 2);
            }
            rows.get(pick.fam).remove(pick.key);
            writes.add(new int[] {2, pick.cls.number, pick.key, 0});
            left.remove(pick);
        }
    }

    boolean other(int c, int key, int m, int v) {
        if (c < 0 || c >= classes.size()) {
            return false;
        }
        Row r = rows.get(classes.get(c).root()).get(key);
        if (r == null || m < 0 || m >= r.cls.all().size()) {
            return false;
        }
        Mem k = r.cls.all().get(m);
        if (k.list() || !k.ref() && !k.fits(v)) {
            return false;
        }
        Row s = r.copy();
        s.vals.put(k, v);
        s.version++;
        if (brokenRule(s, k) != NONE) {
            return false;
        }
        rows.get(classes.get(c).root()).put(key, s);
        return true;
    }

    // Tables and questions

    long cell(int c, int key, int column) {
        if (c < 0 || c >= classes.size()) {
            return Long.MIN_VALUE;
        }
        Cls k = classes.get(c);
        Row r = rows.get(k.root()).get(key);
        if (r == null) {
            return Long.MIN_VALUE;
        }
        List<Long> cells = new ArrayList<>();
        if (k.way == 0) {
            cells.add((long) r.cls.number);
            cells.add((long) r.version);
            for (Cls f : classes) {
                if (f.root() == k.root()) {
                    addCells(cells, f.own, r);
                }
            }
        } else if (k.way == 1 && r.cls.is(k)) {
            if (k.of == null) {
                cells.add((long) r.cls.number);
                cells.add((long) r.version);
            }
            addCells(cells, k.own, r);
        } else if (k.way == 2 && r.cls == k) {
            cells.add((long) r.version);
            addCells(cells, k.all(), r);
        }
        return column < 0 || column >= cells.size() ? Long.MIN_VALUE : cells.get(column);
    }

    private void addCells(List<Long> cells, List<Mem> mems, Row r) {
        for (Mem m : mems) {
            if (!m.list()) {
                cells.add(r.vals.containsKey(m) ? (long) r.vals.get(m) : -(1L << 32));
            }
        }
    }

    int ask(int unit) {
        Work w = work(unit);
        if (w == null) {
            return NONE;
        }
        fault = null;
        scan();
        Cls about;
        Term term = r -> 1;
        try {
            Token t = name();
            about = cls(classes, t.text);
            check(about != null, 3, t);
            if (now().sort != 'e') {
                need("where");
                term = or(about, 0);
                if (now().sort != 'e') {
                    throw wrong();
                }
            }
        } catch (Fault f) {
            fault = f;
            return NONE;
        }
        int result = write(w);
        if (result != 0) {
            return -10 - result;
        }
        found = new ArrayList<>();
        for (Row r : rows.get(about.root()).values()) {
            if (r.cls.is(about) && term.truth(r) == 1) {
                found.add(r.key);
            }
        }
        return found.size();
    }

    // Truths: 1 true, 0 unknown, -1 false

    private Term or(Cls c, int open) {
        Term a = and(c, open);
        while (take("or")) {
            Term left = a;
            Term right = and(c, open);
            a = r -> {
                int x = left.truth(r);
                int y = right.truth(r);
                return x == 1 || y == 1 ? 1 : x == 0 || y == 0 ? 0 : -1;
            };
        }
        return a;
    }

    private Term and(Cls c, int open) {
        Term a = no(c, open);
        while (take("and")) {
            Term left = a;
            Term right = no(c, open);
            a = r -> {
                int x = left.truth(r);
                int y = right.truth(r);
                return x == -1 || y == -1 ? -1 : x == 0 || y == 0 ? 0 : 1;
            };
        }
        return a;
    }

    private Term no(Cls c, int open) {
        Token t = now();
        if (take("not")) {
            check(open < 20, 4, t);
            Term a = no(c, open + 1);
            return r -> -a.truth(r);
        }
        if (take("(")) {
            check(open < 20, 4, t);
            Term a = or(c, open + 1);
            need(")");
            return a;
        }
        boolean empty = take("empty");
        List<Mem> path = new ArrayList<>();
        Cls from = c;
        boolean more = true;
        while (more) {
            Token n = name();
            Mem m = from.named(n.text);
            check(m != null, 3, n);
            more = take(".");
            check(more || empty ? m.ref() : !m.ref() && !m.list(), 3, n);
            path.add(m);
            from = m.target;
        }
        if (empty) {
            return r -> {
                Row at = through(r, path);
                return at == null ? 0 : at.vals.get(path.get(path.size() - 1)) == 0 ? 1 : -1;
            };
        }
        Mem last = path.get(path.size() - 1);
        Token sign = now();
        if (!take("=") && !take("<") && !take(">")) {
            throw wrong();
        }
        int with;
        Token v = now();
        if (v.sort == 'w') {
            with = last.names.indexOf(v.text);
            check(with >= 0, 3, v);
            at++;
        } else {
            boolean minus = take("-");
            if (now().sort != 'n') {
                throw wrong();
            }
            with = Integer.parseInt(now().text) * (minus ? -1 : 1);
            at++;
        }
        return r -> {
            Row at = through(r, path);
            if (at == null) {
                return 0;
            }
            int x = at.vals.get(last);
            boolean holds = sign.text.equals("=") ? x == with : sign.text.equals("<") ? x < with : x > with;
            return holds ? 1 : -1;
        };
    }

    private Row through(Row r, List<Mem> path) {
        for (int i = 0; i < path.size() - 1; i++) {
            int key = r.vals.get(path.get(i));
            if (key == 0) {
                return null;
            }
            r = rows.get(path.get(i).target.root()).get(key);
        }
        return r;
    }

    int found(int i) {
        return i < 0 || i >= found.size() ? NONE : found.get(i);
    }

    int count(int what) {
        return switch (what) {
            case 0 -> classes.size();
            case 1 -> (int) java.util.Arrays.stream(units).filter(u -> u != null).count();
            case 2 -> rows.values().stream().mapToInt(TreeMap::size).sum();
            default -> NONE;
        };
    }
}
