/**
 * A register of beekeepers' things: classes told in a text are mapped to tables, units of work keep
 * the objects of their rows and write what changed, or nothing, and questions are asked of the rows.
 */
public final class BeeRegister {
    public static final int NONE = -1;

    private static final int FULL = -2;
    private static final int TAPE_ROOM = 3000;
    private static final int CLASS_ROOM = 12;
    private static final int MEMBER_ROOM = 16;
    private static final int HOOK_ROOM = 4;
    private static final int UNIT_ROOM = 4;
    private static final int THING_ROOM = 60;
    private static final int ROW_ROOM = 60;
    private static final int UNIT_STEP = 100;
    private static final int ASK_REFUSED = -10;
    private static final long MISSING = -4294967296L;

    private final byte[] tape;
    private int tapeSize;
    private final Tokens tokens;
    private final ClassReader classReader;
    private final QuestionReader questionReader;
    private final Question question;
    private final Rows rows;
    private Schema draft;
    private final int[] lastKey;
    private final Unit[] units;
    private final Writing writing;
    private final int[] foundKeys;
    private int foundTotal;

    public BeeRegister() {
        tape = new byte[TAPE_ROOM];
        tokens = new Tokens();
        classReader = new ClassReader(tokens);
        question = new Question();
        questionReader = new QuestionReader(tokens, question);
        rows = new Rows(new Schema());
        draft = new Schema();
        lastKey = new int[CLASS_ROOM];
        units = new Unit[UNIT_ROOM];
        for (int i = 0; i < UNIT_ROOM; i++) {
            units[i] = new Unit(i, rows);
        }
        writing = new Writing(rows);
        foundKeys = new int[ROW_ROOM];
    }

    public int feed(int a, int b, int c, int d, int e) {
        if (tapeSize + 20 > TAPE_ROOM) {
            return NONE;
        }
        feedNumber(a);
        feedNumber(b);
        feedNumber(c);
        feedNumber(d);
        feedNumber(e);
        return tapeSize;
    }

    public int end(int n) {
        if (n < 0 || n > tapeSize) {
            return NONE;
        }
        tapeSize = n;
        return n;
    }

    public int map() {
        tokens.scan(tape, tapeSize);
        tapeSize = 0;
        if (!classReader.readClasses(draft)) {
            return NONE;
        }
        Schema earlier = rows.schema;
        rows.schema = draft;
        draft = earlier;
        beginAnew();
        return rows.schema.classes;
    }

    public int fault(int what) {
        switch (what) {
            case 0:
                return tokens.fault;
            case 1:
                return tokens.faultPlace;
            default:
                return NONE;
        }
    }

    public int look(int c, int what) {
        Kind kind = rows.schema.kindAt(c);
        if (kind == null) {
            return NONE;
        }
        switch (what) {
            case 0:
                return kind.parent;
            case 1:
                return kind.root;
            case 2:
                return kind.way;
            case 3:
                return kind.members;
            default:
                return NONE;
        }
    }

    public int member(int c, int m, int what) {
        Member member = rows.schema.memberAt(c, m);
        if (member == null) {
            return NONE;
        }
        switch (what) {
            case 0:
                return member.sort;
            case 1:
                return member.isLeading() ? member.target : member.names;
            case 2:
                return member.flags;
            case 3:
                return member.sort == Member.LIST ? member.by : NONE;
            default:
                return NONE;
        }
    }

    public int unit() {
        for (int i = 0; i < UNIT_ROOM; i++) {
            if (!units[i].open) {
                units[i].begin();
                return i;
            }
        }
        return NONE;
    }

    public int close(int unit, int how) {
        Unit work = openUnit(unit);
        if (work == null || how < 0 || how > 1) {
            return NONE;
        }
        int result = how == 1 ? writing.perform(work) : Writing.DONE;
        if (result == Writing.DONE) {
            work.open = false;
        }
        return result;
    }

    public int flush(int unit) {
        Unit work = openUnit(unit);
        return work == null ? NONE : writing.perform(work);
    }

    public int outcome(int what) {
        switch (what) {
            case 0:
                return writing.result;
            case 1:
                return writing.atClass;
            case 2:
                return writing.atKey;
            case 3:
                return writing.atMember;
            case 4:
                return writing.atRule;
            default:
                return NONE;
        }
    }

    public int write(int i, int what) {
        return writing.logged(i, what);
    }

    public int make(int unit, int c) {
        Unit work = openUnit(unit);
        Kind kind = rows.schema.kindAt(c);
        if (work == null || kind == null) {
            return NONE;
        }
        Thing thing = work.comes(Thing.NEW, kind.root, lastKey[kind.root] + 1);
        if (thing == null) {
            return FULL;
        }
        lastKey[kind.root]++;
        thing.kind = c;
        return thing.number;
    }

    public int find(int unit, int c, int key) {
        Unit work = openUnit(unit);
        Kind kind = rows.schema.kindAt(c);
        if (work == null || kind == null) {
            return NONE;
        }
        return work.fetch(c, kind.root, key);
    }

    public int object(int o, int what) {
        Thing thing = thingNumbered(o);
        if (thing == null || what < 0 || what > 3) {
            return NONE;
        }
        if (what == 0) {
            return thing.state;
        }
        if (what == 1) {
            return thing.key;
        }
        units[o / UNIT_STEP].loadStand(thing);
        if (thing.state == Thing.GONE) {
            return NONE;
        }
        return what == 2 ? thing.kind : thing.version;
    }

    public long value(int o, int m) {
        Thing thing = usableThing(o);
        Member member = memberOf(thing, m);
        if (thing == null || member == null || member.sort == Member.LIST) {
            return Long.MIN_VALUE;
        }
        if (member.sort != Member.REFERENCE) {
            return thing.values[m];
        }
        if (thing.values[m] == 0) {
            return NONE;
        }
        return units[o / UNIT_STEP].numberMet(rows.schema.rootOf(member.target), thing.values[m]);
    }

    public boolean put(int o, int m, int v) {
        Thing thing = usableThing(o);
        Member member = memberOf(thing, m);
        if (thing == null || member == null || !member.holds(v)) {
            return false;
        }
        thing.values[m] = v;
        return true;
    }

    public boolean link(int o, int m, int other) {
        Thing thing = usableThing(o);
        Member member = memberOf(thing, m);
        if (thing == null || member == null || member.sort != Member.REFERENCE) {
            return false;
        }
        if (other == NONE) {
            thing.values[m] = 0;
            return true;
        }
        if (other < 0 || other / UNIT_STEP != o / UNIT_STEP) {
            return false;
        }
        Thing led = usableThing(other);
        if (led == null || !rows.schema.isOf(led.kind, member.target)) {
            return false;
        }
        thing.values[m] = led.key;
        return true;
    }

    public int size(int o, int m) {
        Thing thing = usableThing(o);
        Member member = memberOf(thing, m);
        if (thing == null || member == null || member.sort != Member.LIST) {
            return NONE;
        }
        return units[o / UNIT_STEP].gather(thing, member);
    }

    public int item(int o, int m, int i) {
        int total = size(o, m);
        Thing thing = thingNumbered(o);
        Member member = memberOf(thing, m);
        if (i < 0 || i >= total || member == null) {
            return NONE;
        }
        Unit work = units[o / UNIT_STEP];
        return work.numberMet(rows.schema.rootOf(member.target), work.inList[i]);
    }

    public int drop(int o) {
        Thing thing = usableThing(o);
        return thing == null ? NONE : units[o / UNIT_STEP].dropFrom(thing);
    }

    public int loads(int unit) {
        Unit work = openUnit(unit);
        return work == null ? NONE : work.loaded;
    }

    public boolean other(int c, int key, int m, int v) {
        int row = rows.rowOf(rows.schema.rootOf(c), key);
        if (row == NONE) {
            return false;
        }
        int kind = rows.kind[row];
        Member member = rows.schema.memberAt(kind, m);
        if (member == null || member.sort == Member.LIST) {
            return false;
        }
        if (member.sort != Member.REFERENCE && !member.holds(v)) {
            return false;
        }
        if (rows.brokenRule(kind, key, m, v) != NONE) {
            return false;
        }
        rows.set(row, m, v);
        rows.version[row]++;
        return true;
    }

    public long cell(int c, int key, int column) {
        Kind kind = rows.schema.kindAt(c);
        int row = rows.rowOf(rows.schema.rootOf(c), key);
        if (kind == null || row == NONE || column < 0) {
            return Long.MIN_VALUE;
        }
        switch (kind.way) {
            case Kind.JOINED:
                return rows.joinedCell(c, row, column);
            case Kind.OWN:
                return rows.ownCell(c, row, column);
            default:
                return rows.oneCell(kind.root, row, column);
        }
    }

    public int ask(int unit) {
        Unit work = openUnit(unit);
        if (work == null) {
            return NONE;
        }
        tokens.scan(tape, tapeSize);
        tapeSize = 0;
        if (!questionReader.readQuestion(rows.schema)) {
            return NONE;
        }
        int result = writing.perform(work);
        if (result != Writing.DONE) {
            return ASK_REFUSED - result;
        }
        tellRows();
        return foundTotal;
    }

    public int found(int i) {
        return i < 0 || i >= foundTotal ? NONE : foundKeys[i];
    }

    public int count(int what) {
        switch (what) {
            case 0:
                return rows.schema.classes;
            case 1:
                return openUnits();
            case 2:
                return rows.total();
            default:
                return NONE;
        }
    }

    private void feedNumber(int number) {
        for (int shift = 24; shift >= 0; shift -= 8) {
            if (tapeSize < TAPE_ROOM) {
                tape[tapeSize] = (byte) (number >> shift);
                tapeSize++;
            }
        }
    }

    private void beginAnew() {
        rows.clear();
        for (int i = 0; i < UNIT_ROOM; i++) {
            units[i].open = false;
        }
        for (int i = 0; i < CLASS_ROOM; i++) {
            lastKey[i] = 0;
        }
        foundTotal = 0;
    }

    private void tellRows() {
        int family = rows.schema.rootOf(question.about);
        foundTotal = 0;
        for (int row = rows.firstOf(family); row < rows.endOf(family); row++) {
            if (rows.schema.isOf(rows.kind[row], question.about) && question.isTrueOf(rows, row)) {
                foundKeys[foundTotal] = rows.key[row];
                foundTotal++;
            }
        }
    }

    private int openUnits() {
        int total = 0;
        for (int i = 0; i < UNIT_ROOM; i++) {
            if (units[i].open) {
                total++;
            }
        }
        return total;
    }

    private Unit openUnit(int unit) {
        return unit < 0 || unit >= UNIT_ROOM || !units[unit].open ? null : units[unit];
    }

    private Thing thingNumbered(int o) {
        if (o < 0) {
            return null;
        }
        Unit work = openUnit(o / UNIT_STEP);
        return work == null ? null : work.thingAt(o % UNIT_STEP);
    }

    /** Only its row tells what members a stand has, so a stand is loaded before anything else is tested. */
    private Thing usableThing(int o) {
        Thing thing = thingNumbered(o);
        if (thing == null) {
            return null;
        }
        units[o / UNIT_STEP].loadStand(thing);
        return thing.isLive() ? thing : null;
    }

    private Member memberOf(Thing thing, int m) {
        return thing == null ? null : rows.schema.memberAt(thing.kind, m);
    }

    /** The words, numbers and signs of a text, the one that is looked at, and the fault that ended the reading. */
    private static final class Tokens {
        static final int END = 0;
        static final int BAD = 1;
        static final int NAME = 2;
        static final int KEYWORD = 3;
        static final int NUMBER = 4;
        static final int SIGN = 5;

        static final int NO_TOKEN = 1;
        static final int MISPLACED = 2;
        static final int UNFIT = 3;
        static final int TOO_MANY = 4;
        static final int UNKNOWN_LEAD = 5;

        static final int WORD_ROOM = 8;
        static final int DIGIT_ROOM = 6;
        static final String SIGNS = "{}():;,.=<>+-";

        // A word is kept as one long, a byte for each letter, so that two words are alike if their longs are.
        static final long CLASS = 0x636c617373L;
        static final long OF = 0x6f66L;
        static final long WAY = 0x776179L;
        static final long ONE = 0x6f6e65L;
        static final long JOINED = 0x6a6f696e6564L;
        static final long OWN = 0x6f776eL;
        static final long TO = 0x746fL;
        static final long LIST = 0x6c697374L;
        static final long BY = 0x6279L;
        static final long MUST = 0x6d757374L;
        static final long OWNED = 0x6f776e6564L;
        static final long UNIQUE = 0x756e69717565L;
        static final long WHOLE = 0x77686f6c65L;
        static final long SMALL = 0x736d616c6cL;
        static final long FLAG = 0x666c6167L;
        static final long HOOK = 0x686f6f6bL;
        static final long INSERT = 0x696e73657274L;
        static final long CHANGE = 0x6368616e6765L;
        static final long WHERE = 0x7768657265L;
        static final long OR = 0x6f72L;
        static final long AND = 0x616e64L;
        static final long NOT = 0x6e6f74L;
        static final long EMPTY = 0x656d707479L;
        private static final long[] KEYWORDS = {
            CLASS, OF, WAY, ONE, JOINED, OWN, TO, LIST, BY, MUST, OWNED, UNIQUE,
            WHOLE, SMALL, FLAG, HOOK, INSERT, CHANGE, WHERE, OR, AND, NOT, EMPTY
        };

        private final int[] sort = new int[TAPE_ROOM + 1];
        private final int[] place = new int[TAPE_ROOM + 1];
        private final long[] content = new long[TAPE_ROOM + 1];
        private int last;
        private int at;
        int fault;
        int faultPlace = NONE;

        void scan(byte[] text, int length) {
            fault = 0;
            faultPlace = NONE;
            at = 0;
            last = 0;
            int from = 0;
            for (int n = 0; n < length && from < length; n++) {
                if (isBlank(text[from])) {
                    from++;
                } else {
                    int to = endOfToken(text, from, length);
                    keep(text, from, to);
                    from = to;
                }
            }
            sort[last] = END;
            place[last] = length;
        }

        private void keep(byte[] text, int from, int to) {
            place[last] = from;
            if (isLetter(text[from])) {
                keepWord(text, from, to);
            } else if (isDigit(text[from])) {
                keepNumber(text, from, to);
            } else {
                content[last] = text[from];
                sort[last] = SIGNS.indexOf((char) (text[from] & 255)) >= 0 ? SIGN : BAD;
            }
            last++;
        }

        private void keepWord(byte[] text, int from, int to) {
            sort[last] = BAD;
            if (to - from > WORD_ROOM) {
                return;
            }
            long word = 0;
            for (int i = from; i < to; i++) {
                word = word << 8 | text[i];
            }
            content[last] = word;
            sort[last] = isKeyword(word) ? KEYWORD : NAME;
        }

        private void keepNumber(byte[] text, int from, int to) {
            sort[last] = BAD;
            if (to - from > DIGIT_ROOM) {
                return;
            }
            long number = 0;
            for (int i = from; i < to; i++) {
                number = number * 10 + (text[i] - '0');
            }
            content[last] = number;
            sort[last] = NUMBER;
        }

        private static int endOfToken(byte[] text, int from, int length) {
            int to = from + 1;
            if (isLetter(text[from])) {
                while (to < length && (isLetter(text[to]) || isDigit(text[to]))) {
                    to++;
                }
            } else if (isDigit(text[from])) {
                while (to < length && isDigit(text[to])) {
                    to++;
                }
            }
            return to;
        }

        private static boolean isBlank(int c) {
            return c == 9 || c == 10 || c == 13 || c == 32;
        }

        private static boolean isLetter(int c) {
            return c >= 'a' && c <= 'z' || c >= 'A' && c <= 'Z';
        }

        private static boolean isDigit(int c) {
            return c >= '0' && c <= '9';
        }

        private static boolean isKeyword(long word) {
            for (int i = 0; i < KEYWORDS.length; i++) {
                if (KEYWORDS[i] == word) {
                    return true;
                }
            }
            return false;
        }

        boolean isEnd() {
            return sort[at] == END;
        }

        boolean isName() {
            return sort[at] == NAME;
        }

        boolean isNumber() {
            return sort[at] == NUMBER;
        }

        boolean isAt(long what) {
            return (sort[at] == KEYWORD || sort[at] == SIGN) && content[at] == what;
        }

        boolean isAhead(long sign) {
            return at < last && sort[at + 1] == SIGN && content[at + 1] == sign;
        }

        long word() {
            return content[at];
        }

        int number() {
            return (int) content[at];
        }

        int placeNow() {
            return place[at];
        }

        void pass() {
            if (at < last) {
                at++;
            }
        }

        boolean takes(long what) {
            boolean isThere = (sort[at] == KEYWORD || sort[at] == SIGN) && content[at] == what;
            if (isThere && at < last) {
                at++;
            }
            return isThere;
        }

        boolean expects(long what) {
            return takes(what) || misplaced();
        }

        boolean misplaced() {
            fault = sort[at] == BAD ? NO_TOKEN : MISPLACED;
            faultPlace = place[at];
            return false;
        }

        boolean refuse(int number) {
            return refuseAt(number, place[at]);
        }

        boolean refuseAt(int number, int where) {
            fault = number;
            faultPlace = where;
            return false;
        }
    }

    /** A member that a class tells; its heirs share it. */
    private static final class Member {
        static final int WHOLE = 0;
        static final int SMALL = 1;
        static final int FLAG = 2;
        static final int NAMES = 3;
        static final int REFERENCE = 4;
        static final int LIST = 5;

        static final int UNIQUE = 1;
        static final int MUST = 2;
        static final int OWNED = 4;

        long name;
        int teller;
        int sort;
        int flags;
        int firstName;
        int names;
        long targetName;
        int targetPlace;
        int target;
        long byName;
        int byPlace;
        int by;

        void begin(long called, int toldBy) {
            name = called;
            teller = toldBy;
            flags = 0;
            names = 0;
            target = NONE;
            by = NONE;
        }

        boolean isLeading() {
            return sort == REFERENCE || sort == LIST;
        }

        boolean has(int flag) {
            return (flags & flag) != 0;
        }

        boolean holds(int v) {
            switch (sort) {
                case WHOLE:
                    return true;
                case SMALL:
                    return v >= -128 && v <= 127;
                case FLAG:
                    return v == 0 || v == 1;
                case NAMES:
                    return v >= 0 && v < names;
                default:
                    return false;
            }
        }
    }

    /** A class told in the text. */
    private static final class Kind {
        static final int ONE = 0;
        static final int JOINED = 1;
        static final int OWN = 2;

        long name;
        int parent;
        int root;
        int way;
        int members;
        final Member[] member = new Member[MEMBER_ROOM];
        int hooks;
        final boolean[] hookOnInsert = new boolean[HOOK_ROOM];
        final int[] hookMember = new int[HOOK_ROOM];
        final int[] hookAmount = new int[HOOK_ROOM];

        void begin(long called, int asRoot, int inWay) {
            name = called;
            parent = NONE;
            root = asRoot;
            way = inWay;
            members = 0;
            hooks = 0;
        }

        int memberNamed(long called) {
            for (int m = 0; m < members; m++) {
                if (member[m].name == called) {
                    return m;
                }
            }
            return NONE;
        }

        void runHooks(Thing thing, boolean onInsert) {
            for (int h = 0; h < hooks; h++) {
                if (hookOnInsert[h] == onInsert) {
                    thing.values[hookMember[h]] += hookAmount[h];
                }
            }
        }
    }

    /** All classes of one text. */
    private static final class Schema {
        int classes;
        final Kind[] kind = new Kind[CLASS_ROOM];
        int toldMembers;
        final Member[] told = new Member[CLASS_ROOM * MEMBER_ROOM];
        int toldNames;
        final long[] nameWord = new long[TAPE_ROOM / 2];

        Schema() {
            for (int i = 0; i < CLASS_ROOM; i++) {
                kind[i] = new Kind();
            }
            for (int i = 0; i < CLASS_ROOM * MEMBER_ROOM; i++) {
                told[i] = new Member();
            }
        }

        void clear() {
            classes = 0;
            toldMembers = 0;
            toldNames = 0;
        }

        Kind kindAt(int c) {
            return c < 0 || c >= classes ? null : kind[c];
        }

        int rootOf(int c) {
            return c < 0 || c >= classes ? NONE : kind[c].root;
        }

        Member memberAt(int c, int m) {
            Kind of = kindAt(c);
            return of == null || m < 0 || m >= of.members ? null : of.member[m];
        }

        int memberNamed(int c, long name) {
            Kind of = kindAt(c);
            return of == null ? NONE : of.memberNamed(name);
        }

        int classNamed(long name) {
            for (int c = 0; c < classes; c++) {
                if (kind[c].name == name) {
                    return c;
                }
            }
            return NONE;
        }

        boolean isOf(int c, int other) {
            int up = c;
            for (int n = 0; n < CLASS_ROOM && up >= 0 && up < classes; n++) {
                if (up == other) {
                    return true;
                }
                up = kind[up].parent;
            }
            return false;
        }

        int nameNumber(Member member, long name) {
            for (int i = 0; i < member.names; i++) {
                if (nameWord[member.firstName + i] == name) {
                    return i;
                }
            }
            return NONE;
        }

        Kind addClass(long name, int parent, int way) {
            Kind added = kind[classes];
            added.begin(name, classes, way);
            Kind above = kindAt(parent);
            if (above != null) {
                added.parent = parent;
                added.root = above.root;
                added.way = above.way;
                added.members = above.members;
                for (int m = 0; m < above.members; m++) {
                    added.member[m] = above.member[m];
                }
            }
            classes++;
            return added;
        }

        Member addMember(Kind to, long name) {
            Member added = told[toldMembers];
            toldMembers++;
            added.begin(name, classes - 1);
            to.member[to.members] = added;
            to.members++;
            return added;
        }

        void runHooks(Thing thing, boolean onInsert) {
            // Parents are told ahead of their heirs, so the numbers go up from the root down.
            for (int c = 0; c < classes; c++) {
                if (isOf(thing.kind, c)) {
                    kind[c].runHooks(thing, onInsert);
                }
            }
        }
    }

    /** Reads a text of classes into a schema, up to the first fault. */
    private static final class ClassReader {
        private final Tokens tokens;
        private Schema schema;
        private Kind kind;

        ClassReader(Tokens tokens) {
            this.tokens = tokens;
        }

        boolean readClasses(Schema into) {
            schema = into;
            schema.clear();
            kind = null;
            for (int i = 0; i <= TAPE_ROOM && !(kind == null && tokens.isEnd()); i++) {
                boolean read = kind == null ? readHead() : readPart();
                if (!read) {
                    return false;
                }
            }
            findTargets();
            return checkLeads();
        }

        private boolean readHead() {
            if (!tokens.expects(Tokens.CLASS)) {
                return false;
            }
            if (!tokens.isName()) {
                return tokens.misplaced();
            }
            long name = tokens.word();
            if (schema.classNamed(name) != NONE) {
                return tokens.refuse(Tokens.UNFIT);
            }
            if (schema.classes >= CLASS_ROOM) {
                return tokens.refuse(Tokens.TOO_MANY);
            }
            tokens.pass();
            return readOrigin(name);
        }

        private boolean readOrigin(long name) {
            int parent = NONE;
            int way = Kind.ONE;
            if (tokens.takes(Tokens.OF)) {
                if (!tokens.isName()) {
                    return tokens.misplaced();
                }
                parent = schema.classNamed(tokens.word());
                if (parent == NONE) {
                    return tokens.refuse(Tokens.UNFIT);
                }
                tokens.pass();
            } else if (tokens.takes(Tokens.WAY)) {
                way = wayNow();
                if (way == NONE) {
                    return tokens.misplaced();
                }
                tokens.pass();
            }
            if (!tokens.expects('{')) {
                return false;
            }
            kind = schema.addClass(name, parent, way);
            return true;
        }

        private int wayNow() {
            if (tokens.isAt(Tokens.ONE)) {
                return Kind.ONE;
            }
            if (tokens.isAt(Tokens.JOINED)) {
                return Kind.JOINED;
            }
            return tokens.isAt(Tokens.OWN) ? Kind.OWN : NONE;
        }

        private boolean readPart() {
            if (tokens.takes('}')) {
                kind = null;
                return true;
            }
            return tokens.isAt(Tokens.HOOK) ? readHook() : readMember();
        }

        private boolean readHook() {
            if (kind.hooks >= HOOK_ROOM) {
                return tokens.refuse(Tokens.TOO_MANY);
            }
            tokens.pass();
            boolean onInsert = tokens.takes(Tokens.INSERT);
            if (!onInsert && !tokens.expects(Tokens.CHANGE)) {
                return false;
            }
            if (!tokens.isName()) {
                return tokens.misplaced();
            }
            int m = kind.memberNamed(tokens.word());
            if (m == NONE || kind.member[m].sort != Member.WHOLE) {
                return tokens.refuse(Tokens.UNFIT);
            }
            tokens.pass();
            if (!tokens.expects('+')) {
                return false;
            }
            if (!tokens.isNumber()) {
                return tokens.misplaced();
            }
            kind.hookOnInsert[kind.hooks] = onInsert;
            kind.hookMember[kind.hooks] = m;
            kind.hookAmount[kind.hooks] = tokens.number();
            kind.hooks++;
            tokens.pass();
            return tokens.expects(';');
        }

        private boolean readMember() {
            if (!tokens.isName()) {
                return tokens.misplaced();
            }
            if (kind.memberNamed(tokens.word()) != NONE) {
                return tokens.refuse(Tokens.UNFIT);
            }
            if (kind.members >= MEMBER_ROOM) {
                return tokens.refuse(Tokens.TOO_MANY);
            }
            Member member = schema.addMember(kind, tokens.word());
            tokens.pass();
            return tokens.expects(':') && readSort(member) && tokens.expects(';');
        }

        private boolean readSort(Member member) {
            if (tokens.takes(Tokens.TO)) {
                return readReference(member);
            }
            if (tokens.takes(Tokens.LIST)) {
                return readList(member);
            }
            if (tokens.takes(Tokens.WHOLE)) {
                member.sort = Member.WHOLE;
            } else if (tokens.takes(Tokens.SMALL)) {
                member.sort = Member.SMALL;
            } else if (tokens.takes(Tokens.FLAG)) {
                member.sort = Member.FLAG;
            } else if (!tokens.expects('(') || !readNames(member)) {
                return false;
            }
            takeFlag(member, Tokens.UNIQUE, Member.UNIQUE);
            return true;
        }

        private boolean readNames(Member member) {
            member.sort = Member.NAMES;
            member.firstName = schema.toldNames;
            boolean more = true;
            for (int i = 0; i < schema.nameWord.length && more; i++) {
                if (!tokens.isName()) {
                    return tokens.misplaced();
                }
                if (schema.nameNumber(member, tokens.word()) != NONE) {
                    return tokens.refuse(Tokens.UNFIT);
                }
                // A name and the sign behind it are two bytes at least, so the words of a tape have room.
                if (schema.toldNames >= schema.nameWord.length) {
                    return tokens.refuse(Tokens.TOO_MANY);
                }
                schema.nameWord[schema.toldNames] = tokens.word();
                schema.toldNames++;
                member.names++;
                tokens.pass();
                more = tokens.takes(',');
            }
            return tokens.expects(')');
        }

        private boolean readReference(Member member) {
            member.sort = Member.REFERENCE;
            if (!readTarget(member)) {
                return false;
            }
            takeFlag(member, Tokens.MUST, Member.MUST);
            takeFlag(member, Tokens.OWNED, Member.OWNED);
            return true;
        }

        private boolean readList(Member member) {
            member.sort = Member.LIST;
            if (!readTarget(member) || !tokens.expects(Tokens.BY)) {
                return false;
            }
            if (!tokens.isName()) {
                return tokens.misplaced();
            }
            member.byName = tokens.word();
            member.byPlace = tokens.placeNow();
            tokens.pass();
            takeFlag(member, Tokens.OWNED, Member.OWNED);
            return true;
        }

        private boolean readTarget(Member member) {
            if (!tokens.isName()) {
                return tokens.misplaced();
            }
            member.targetName = tokens.word();
            member.targetPlace = tokens.placeNow();
            tokens.pass();
            return true;
        }

        private void takeFlag(Member member, long word, int flag) {
            if (tokens.takes(word)) {
                member.flags |= flag;
            }
        }

        private void findTargets() {
            for (int i = 0; i < schema.toldMembers; i++) {
                Member member = schema.told[i];
                if (member.isLeading()) {
                    member.target = schema.classNamed(member.targetName);
                }
            }
        }

        private boolean checkLeads() {
            for (int i = 0; i < schema.toldMembers; i++) {
                Member member = schema.told[i];
                if (member.isLeading() && member.target == NONE) {
                    return tokens.refuseAt(Tokens.UNKNOWN_LEAD, member.targetPlace);
                }
                if (member.sort == Member.LIST && !findBy(member)) {
                    return tokens.refuseAt(Tokens.UNKNOWN_LEAD, member.byPlace);
                }
            }
            return true;
        }

        private boolean findBy(Member list) {
            int m = schema.memberNamed(list.target, list.byName);
            Member by = schema.memberAt(list.target, m);
            if (by == null || by.sort != Member.REFERENCE || !schema.isOf(list.teller, by.target)) {
                return false;
            }
            list.by = m;
            return true;
        }
    }

    /** A question as a row of steps, each term behind what it joins. */
    private static final class Question {
        static final int NOT = 0;
        static final int AND = 1;
        static final int OR = 2;
        static final int EMPTY = 3;
        static final int COMPARE = 4;

        static final int FALSE = 0;
        static final int UNKNOWN = 1;
        static final int TRUE = 2;

        static final int STACK_ROOM = 64;

        int about;
        int length;
        private final int[] code = new int[2 * TAPE_ROOM];
        private final int[] truth = new int[STACK_ROOM];

        void begin(int c) {
            about = c;
            length = 0;
        }

        void add(int part) {
            if (length < code.length) {
                code[length] = part;
                length++;
            }
        }

        void set(int at, int part) {
            if (at >= 0 && at < length) {
                code[at] = part;
            }
        }

        boolean isTrueOf(Rows rows, int row) {
            int depth = 0;
            int at = 0;
            for (int n = 0; n < length && at < length; n++) {
                int step = code[at];
                if (step == EMPTY || step == COMPARE) {
                    if (depth < STACK_ROOM) {
                        truth[depth] = truthOfTerm(rows, row, at);
                        depth++;
                    }
                    at += code[at + 1] + (step == EMPTY ? 2 : 4);
                } else {
                    depth = join(step, depth);
                    at++;
                }
            }
            return depth == 0 || truth[depth - 1] == TRUE;
        }

        private int join(int step, int depth) {
            if (step == NOT && depth > 0) {
                truth[depth - 1] = TRUE - truth[depth - 1];
                return depth;
            }
            if (depth < 2) {
                return depth;
            }
            int left = truth[depth - 2];
            int right = truth[depth - 1];
            truth[depth - 2] = step == AND ? Math.min(left, right) : Math.max(left, right);
            return depth - 1;
        }

        private int truthOfTerm(Rows rows, int start, int at) {
            int steps = code[at + 1];
            int row = start;
            for (int i = 0; i < steps - 1; i++) {
                row = rows.rowLedTo(row, code[at + 2 + i]);
                if (row == NONE) {
                    return UNKNOWN;
                }
            }
            int v = rows.get(row, code[at + 1 + steps]);
            boolean holds = code[at] == EMPTY ? v == 0 : compares(v, code[at + 2 + steps], code[at + 3 + steps]);
            return holds ? TRUE : FALSE;
        }

        private static boolean compares(int v, int sign, int with) {
            if (sign == '=') {
                return v == with;
            }
            return sign == '<' ? v < with : v > with;
        }
    }

    /** Reads a question, up to the first fault; what is open stands on a stack. */
    private static final class QuestionReader {
        static final int OPEN_ROOM = 20;
        static final int PARENTHESIS = 5;

        private final Tokens tokens;
        private final Question question;
        private Schema schema;
        // Of each open ( at most an "or" and an "and" wait, and so outside of all.
        private final int[] waiting = new int[3 * OPEN_ROOM + 4];
        private int waits;
        private int opened;

        QuestionReader(Tokens tokens, Question question) {
            this.tokens = tokens;
            this.question = question;
        }

        boolean readQuestion(Schema of) {
            schema = of;
            if (!tokens.isName()) {
                return tokens.misplaced();
            }
            int c = schema.classNamed(tokens.word());
            if (c == NONE) {
                return tokens.refuse(Tokens.UNFIT);
            }
            question.begin(c);
            tokens.pass();
            if (tokens.isEnd()) {
                return true;
            }
            return tokens.expects(Tokens.WHERE) && readTerms();
        }

        private boolean readTerms() {
            waits = 0;
            opened = 0;
            for (int i = 0; i <= TAPE_ROOM; i++) {
                if (!readOpenings() || !readTerm()) {
                    return false;
                }
                if (!readClosings()) {
                    return false;
                }
                if (tokens.isEnd()) {
                    joinDown(Question.OR);
                    return waits == 0 || tokens.misplaced();
                }
                if (!readJoiner()) {
                    return false;
                }
            }
            return tokens.misplaced();
        }

        private boolean readOpenings() {
            for (int i = 0; i <= TAPE_ROOM; i++) {
                int opening = openingNow();
                if (opening == NONE) {
                    return true;
                }
                if (opened >= OPEN_ROOM) {
                    return tokens.refuse(Tokens.TOO_MANY);
                }
                opened++;
                push(opening);
                tokens.pass();
            }
            return tokens.misplaced();
        }

        private int openingNow() {
            if (tokens.isAt(Tokens.NOT)) {
                return Question.NOT;
            }
            return tokens.isAt('(') ? PARENTHESIS : NONE;
        }

        private boolean readClosings() {
            for (int i = 0; i <= TAPE_ROOM && tokens.isAt(')'); i++) {
                joinDown(Question.OR);
                if (waits == 0) {
                    return tokens.misplaced();
                }
                waits--;
                opened--;
                tokens.pass();
            }
            return true;
        }

        private boolean readJoiner() {
            int joiner = Question.AND;
            if (!tokens.takes(Tokens.AND)) {
                if (!tokens.expects(Tokens.OR)) {
                    return false;
                }
                joiner = Question.OR;
            }
            joinDown(joiner);
            push(joiner);
            return true;
        }

        /** Joins what waits on the top and binds at least as closely: "not" before "and", "and" before "or". */
        private void joinDown(int loosest) {
            while (waits > 0 && waiting[waits - 1] <= loosest) {
                waits--;
                if (waiting[waits] == Question.NOT) {
                    opened--;
                }
                question.add(waiting[waits]);
            }
        }

        private void push(int what) {
            if (waits < waiting.length) {
                waiting[waits] = what;
                waits++;
            }
        }

        private boolean readTerm() {
            if (tokens.takes(Tokens.EMPTY)) {
                question.add(Question.EMPTY);
                return readPath(true) != null;
            }
            question.add(Question.COMPARE);
            Member member = readPath(false);
            return member != null && readSign() && readOperand(member);
        }

        private Member readPath(boolean toReference) {
            int countAt = question.length;
            question.add(0);
            int c = question.about;
            boolean more = true;
            Member member = null;
            for (int n = 1; n <= TAPE_ROOM && more; n++) {
                if (!tokens.isName()) {
                    tokens.misplaced();
                    return null;
                }
                int m = schema.memberNamed(c, tokens.word());
                member = schema.memberAt(c, m);
                more = tokens.isAhead('.');
                if (member == null || !canStand(member, more, toReference)) {
                    tokens.refuse(Tokens.UNFIT);
                    return null;
                }
                question.add(m);
                question.set(countAt, n);
                tokens.pass();
                if (more) {
                    tokens.pass();
                    c = member.target;
                }
            }
            return member;
        }

        private static boolean canStand(Member member, boolean more, boolean toReference) {
            if (more || toReference) {
                return member.sort == Member.REFERENCE;
            }
            return !member.isLeading();
        }

        private boolean readSign() {
            if (!tokens.isAt('=') && !tokens.isAt('<') && !tokens.isAt('>')) {
                return tokens.misplaced();
            }
            question.add((int) tokens.word());
            tokens.pass();
            return true;
        }

        private boolean readOperand(Member member) {
            if (tokens.isName()) {
                int number = schema.nameNumber(member, tokens.word());
                if (number == NONE) {
                    return tokens.refuse(Tokens.UNFIT);
                }
                question.add(number);
                tokens.pass();
                return true;
            }
            boolean below = tokens.takes('-');
            if (!tokens.isNumber()) {
                return tokens.misplaced();
            }
            question.add(below ? -tokens.number() : tokens.number());
            tokens.pass();
            return true;
        }
    }

    /** The rows of all families, those of one family side by side in order of their keys, and the rules. */
    private static final class Rows {
        static final int RULE_MUST = 0;
        static final int RULE_UNIQUE = 1;
        static final int RULE_LEADS = 2;

        Schema schema;
        private final int[] rowsOf = new int[CLASS_ROOM];
        final int[] key = new int[CLASS_ROOM * ROW_ROOM];
        final int[] kind = new int[CLASS_ROOM * ROW_ROOM];
        final int[] version = new int[CLASS_ROOM * ROW_ROOM];
        private final int[] values = new int[CLASS_ROOM * ROW_ROOM * MEMBER_ROOM];

        Rows(Schema schema) {
            this.schema = schema;
        }

        void clear() {
            for (int i = 0; i < CLASS_ROOM; i++) {
                rowsOf[i] = 0;
            }
        }

        void copyFrom(Rows from) {
            for (int family = 0; family < CLASS_ROOM; family++) {
                int first = family * ROW_ROOM;
                int many = from.rowsOf[family];
                rowsOf[family] = many;
                System.arraycopy(from.key, first, key, first, many);
                System.arraycopy(from.kind, first, kind, first, many);
                System.arraycopy(from.version, first, version, first, many);
                System.arraycopy(from.values, first * MEMBER_ROOM, values, first * MEMBER_ROOM, many * MEMBER_ROOM);
            }
        }

        int total() {
            int sum = 0;
            for (int i = 0; i < CLASS_ROOM; i++) {
                sum += rowsOf[i];
            }
            return sum;
        }

        int firstOf(int family) {
            return family < 0 || family >= CLASS_ROOM ? 0 : family * ROW_ROOM;
        }

        int endOf(int family) {
            return family < 0 || family >= CLASS_ROOM ? 0 : family * ROW_ROOM + rowsOf[family];
        }

        boolean isFull(int family) {
            return rowsOf[family] >= ROW_ROOM;
        }

        int rowOf(int family, int wanted) {
            if (family < 0 || family >= CLASS_ROOM) {
                return NONE;
            }
            int first = family * ROW_ROOM;
            for (int i = 0; i < rowsOf[family]; i++) {
                if (key[first + i] == wanted) {
                    return first + i;
                }
            }
            return NONE;
        }

        int get(int row, int m) {
            return values[row * MEMBER_ROOM + m];
        }

        void set(int row, int m, int v) {
            values[row * MEMBER_ROOM + m] = v;
        }

        void copyValues(int row, int[] to) {
            System.arraycopy(values, row * MEMBER_ROOM, to, 0, MEMBER_ROOM);
        }

        int rowLedTo(int row, int m) {
            Member member = schema.memberAt(kind[row], m);
            if (member == null || get(row, m) == 0) {
                return NONE;
            }
            return rowOf(schema.rootOf(member.target), get(row, m));
        }

        int add(int family, int newKey, int newKind) {
            int row = endOf(family);
            while (row > firstOf(family) && key[row - 1] > newKey) {
                row--;
            }
            move(row, row + 1, endOf(family) - row);
            rowsOf[family]++;
            key[row] = newKey;
            kind[row] = newKind;
            version[row] = 1;
            return row;
        }

        void remove(int family, int row) {
            move(row + 1, row, endOf(family) - row - 1);
            rowsOf[family]--;
        }

        private void move(int from, int to, int many) {
            System.arraycopy(key, from, key, to, many);
            System.arraycopy(kind, from, kind, to, many);
            System.arraycopy(version, from, version, to, many);
            System.arraycopy(values, from * MEMBER_ROOM, values, to * MEMBER_ROOM, many * MEMBER_ROOM);
        }

        /** The rule that a row with a class and a key would break by a value: NONE if it breaks none. */
        int brokenRule(int ofKind, int ofKey, int m, int v) {
            Member member = schema.memberAt(ofKind, m);
            if (member == null || member.sort == Member.LIST) {
                return NONE;
            }
            if (member.has(Member.MUST) && v == 0) {
                return RULE_MUST;
            }
            if (member.has(Member.UNIQUE) && isTaken(member, ofKey, m, v)) {
                return RULE_UNIQUE;
            }
            if (member.sort == Member.REFERENCE && v != 0 && !leads(member, ofKind, ofKey, v)) {
                return RULE_LEADS;
            }
            return NONE;
        }

        private boolean isTaken(Member member, int ofKey, int m, int v) {
            int family = schema.rootOf(member.teller);
            for (int row = firstOf(family); row < endOf(family); row++) {
                if (key[row] != ofKey && schema.isOf(kind[row], member.teller) && get(row, m) == v) {
                    return true;
                }
            }
            return false;
        }

        private boolean leads(Member member, int ofKind, int ofKey, int v) {
            int family = schema.rootOf(member.target);
            if (v == ofKey && family == schema.rootOf(ofKind)) {
                return schema.isOf(ofKind, member.target);
            }
            int row = rowOf(family, v);
            return row != NONE && schema.isOf(kind[row], member.target);
        }

        /** The member by which the first other row, by class and key, leads to a row: NONE if none does. */
        int leadingMember(int family, int toKey) {
            for (int c = 0; c < schema.classes; c++) {
                int from = schema.rootOf(c);
                for (int row = firstOf(from); row < endOf(from); row++) {
                    if (kind[row] == c && (from != family || key[row] != toKey)) {
                        int m = memberLeading(row, family, toKey);
                        if (m != NONE) {
                            return m;
                        }
                    }
                }
            }
            return NONE;
        }

        private int memberLeading(int row, int family, int toKey) {
            Kind of = schema.kind[kind[row]];
            for (int m = 0; m < of.members; m++) {
                Member member = of.member[m];
                if (member.sort == Member.REFERENCE && get(row, m) == toKey
                        && schema.rootOf(member.target) == family) {
                    return m;
                }
            }
            return NONE;
        }

        long oneCell(int root, int row, int column) {
            if (column < 2) {
                return column == 0 ? kind[row] : version[row];
            }
            int left = column - 2;
            for (int c = root; c < schema.classes; c++) {
                if (schema.rootOf(c) == root) {
                    int m = ownColumn(c, left);
                    if (m != NONE) {
                        return schema.isOf(kind[row], c) ? get(row, m) : MISSING;
                    }
                    left -= ownColumns(c);
                }
            }
            return Long.MIN_VALUE;
        }

        long joinedCell(int c, int row, int column) {
            if (!schema.isOf(kind[row], c)) {
                return Long.MIN_VALUE;
            }
            boolean isRoot = schema.rootOf(c) == c;
            if (isRoot && column < 2) {
                return column == 0 ? kind[row] : version[row];
            }
            int m = ownColumn(c, isRoot ? column - 2 : column);
            return m == NONE ? Long.MIN_VALUE : get(row, m);
        }

        long ownCell(int c, int row, int column) {
            if (kind[row] != c) {
                return Long.MIN_VALUE;
            }
            if (column == 0) {
                return version[row];
            }
            int m = columnFrom(c, 0, column - 1);
            return m == NONE ? Long.MIN_VALUE : get(row, m);
        }

        private int ownColumn(int c, int wanted) {
            return columnFrom(c, firstOwn(c), wanted);
        }

        private int firstOwn(int c) {
            Kind above = schema.kindAt(schema.kind[c].parent);
            return above == null ? 0 : above.members;
        }

        private int ownColumns(int c) {
            Kind of = schema.kind[c];
            int total = 0;
            for (int m = firstOwn(c); m < of.members; m++) {
                if (of.member[m].sort != Member.LIST) {
                    total++;
                }
            }
            return total;
        }

        /** The member that is the wanted one, lists not counted, from one on. */
        private int columnFrom(int c, int from, int wanted) {
            Kind of = schema.kind[c];
            int left = wanted;
            for (int m = from; m < of.members; m++) {
                if (of.member[m].sort != Member.LIST) {
                    if (left == 0) {
                        return m;
                    }
                    left--;
                }
            }
            return NONE;
        }
    }

    /** An object of a unit. */
    private static final class Thing {
        static final int STAND = 0;
        static final int LOADED = 1;
        static final int NEW = 2;
        static final int DROPPED = 3;
        static final int GONE = 4;

        final int number;
        int state;
        int family;
        int key;
        int kind;
        int version;
        final int[] values = new int[MEMBER_ROOM];
        private final int[] copy = new int[MEMBER_ROOM];
        boolean inRow;
        boolean written;
        int putOff;

        Thing(int number) {
            this.number = number;
        }

        void begin(int inState, int ofFamily, int withKey) {
            state = inState;
            family = ofFamily;
            key = withKey;
            kind = NONE;
            version = 0;
            inRow = false;
            for (int m = 0; m < MEMBER_ROOM; m++) {
                values[m] = 0;
                copy[m] = 0;
            }
        }

        boolean isLive() {
            return state == NEW || state == LOADED;
        }

        void keepCopy(int ofVersion) {
            state = LOADED;
            version = ofVersion;
            System.arraycopy(values, 0, copy, 0, MEMBER_ROOM);
        }

        /** A bit for each member whose value is not the copy's. */
        int changes() {
            int bits = 0;
            for (int m = 0; m < MEMBER_ROOM; m++) {
                if (values[m] != copy[m]) {
                    bits |= 1 << m;
                }
            }
            return bits;
        }

        boolean isAhead(Thing other) {
            return kind != other.kind ? kind < other.kind : key < other.key;
        }
    }

    /** A unit of work: one object for each row that it met. */
    private static final class Unit {
        private final Rows rows;
        final Thing[] things = new Thing[THING_ROOM];
        private final Thing[] dropRow = new Thing[THING_ROOM];
        final int[] inList = new int[ROW_ROOM + THING_ROOM];
        boolean open;
        int used;
        int loaded;
        private int inDropRow;

        Unit(int number, Rows rows) {
            this.rows = rows;
            for (int i = 0; i < THING_ROOM; i++) {
                things[i] = new Thing(number * UNIT_STEP + i);
            }
        }

        void begin() {
            open = true;
            used = 0;
            loaded = 0;
        }

        Thing thingAt(int i) {
            return i < 0 || i >= used ? null : things[i];
        }

        Thing thingFor(int family, int key) {
            for (int i = 0; i < used; i++) {
                if (things[i].key == key && things[i].family == family) {
                    return things[i];
                }
            }
            return null;
        }

        /** A further object: null if there is no room. */
        Thing comes(int state, int family, int key) {
            if (used >= THING_ROOM) {
                return null;
            }
            Thing thing = things[used];
            used++;
            thing.begin(state, family, key);
            return thing;
        }

        private Thing meet(int family, int key) {
            Thing thing = thingFor(family, key);
            return thing != null ? thing : comes(Thing.STAND, family, key);
        }

        int numberMet(int family, int key) {
            Thing thing = meet(family, key);
            return thing == null ? FULL : thing.number;
        }

        /** Loads it if it is a stand. */
        void loadStand(Thing thing) {
            if (thing.state != Thing.STAND) {
                return;
            }
            int row = rows.rowOf(thing.family, thing.key);
            if (row == NONE) {
                thing.state = Thing.GONE;
                return;
            }
            thing.kind = rows.kind[row];
            rows.copyValues(row, thing.values);
            thing.keepCopy(rows.version[row]);
            loaded++;
        }

        int fetch(int c, int family, int key) {
            Thing thing = thingFor(family, key);
            if (thing != null && thing.state != Thing.STAND) {
                return thing.isLive() && rows.schema.isOf(thing.kind, c) ? thing.number : NONE;
            }
            int row = rows.rowOf(family, key);
            if (row == NONE || !rows.schema.isOf(rows.kind[row], c)) {
                return NONE;
            }
            Thing met = meet(family, key);
            if (met == null) {
                return FULL;
            }
            loadStand(met);
            return met.number;
        }

        /** Puts the keys of what is in a list into inList, in order: how many. */
        int gather(Thing owner, Member list) {
            int family = rows.schema.rootOf(list.target);
            int total = 0;
            for (int row = rows.firstOf(family); row < rows.endOf(family); row++) {
                if (rows.schema.isOf(rows.kind[row], list.target) && rows.get(row, list.by) == owner.key
                        && isToldByRow(family, rows.key[row])) {
                    inList[total] = rows.key[row];
                    total++;
                }
            }
            for (int i = 0; i < used; i++) {
                Thing thing = things[i];
                if (thing.isLive() && rows.schema.isOf(thing.kind, list.target)
                        && thing.values[list.by] == owner.key) {
                    enlist(thing.key, total);
                    total++;
                }
            }
            return total;
        }

        private boolean isToldByRow(int family, int key) {
            Thing thing = thingFor(family, key);
            return thing == null || thing.state == Thing.STAND;
        }

        private void enlist(int key, int total) {
            int at = total;
            while (at > 0 && inList[at - 1] > key) {
                inList[at] = inList[at - 1];
                at--;
            }
            inList[at] = key;
        }

        int dropFrom(Thing first) {
            for (int i = 0; i < used; i++) {
                things[i].inRow = false;
            }
            inDropRow = 0;
            joinDropRow(first);
            for (int i = 0; i < inDropRow; i++) {
                if (!followOwned(dropRow[i])) {
                    return FULL;
                }
            }
            for (int i = 0; i < inDropRow; i++) {
                Thing thing = dropRow[i];
                thing.state = thing.state == Thing.NEW ? Thing.GONE : Thing.DROPPED;
            }
            return inDropRow;
        }

        private void joinDropRow(Thing thing) {
            if (!thing.inRow && inDropRow < THING_ROOM) {
                thing.inRow = true;
                dropRow[inDropRow] = thing;
                inDropRow++;
            }
        }

        private boolean followOwned(Thing thing) {
            Kind kind = rows.schema.kind[thing.kind];
            for (int m = 0; m < kind.members; m++) {
                Member member = kind.member[m];
                if (member.has(Member.OWNED) && !followMember(thing, member, m)) {
                    return false;
                }
            }
            return true;
        }

        private boolean followMember(Thing thing, Member member, int m) {
            int family = rows.schema.rootOf(member.target);
            if (member.sort == Member.REFERENCE) {
                return thing.values[m] == 0 || followKey(family, thing.values[m]);
            }
            int total = gather(thing, member);
            for (int i = 0; i < total; i++) {
                if (!followKey(family, inList[i])) {
                    return false;
                }
            }
            return true;
        }

        private boolean followKey(int family, int key) {
            Thing thing = meet(family, key);
            if (thing == null) {
                return false;
            }
            loadStand(thing);
            if (thing.isLive()) {
                joinDropRow(thing);
            }
            return true;
        }
    }

    /** The latest writing: its outcome and its writes. */
    private static final class Writing {
        static final int DONE = 0;
        static final int RULE_BROKEN = 1;
        static final int STALE = 2;
        static final int CIRCLE = 4;
        static final int NO_ROOM = 5;

        static final int INSERT = 0;
        static final int CHANGE = 1;
        static final int DELETE = 2;

        private final Rows rows;
        private final Rows before;
        private final Thing[] order = new Thing[THING_ROOM];
        private int ordered;
        int result;
        int atClass = NONE;
        int atKey = NONE;
        int atMember = NONE;
        int atRule = NONE;
        private int writes;
        private final int[] wroteHow = new int[2 * THING_ROOM];
        private final int[] wroteClass = new int[2 * THING_ROOM];
        private final int[] wroteKey = new int[2 * THING_ROOM];
        private final int[] wroteColumns = new int[2 * THING_ROOM];

        Writing(Rows rows) {
            this.rows = rows;
            this.before = new Rows(rows.schema);
        }

        int logged(int i, int what) {
            if (i < 0 || i >= writes) {
                return NONE;
            }
            switch (what) {
                case 0:
                    return wroteHow[i];
                case 1:
                    return wroteClass[i];
                case 2:
                    return wroteKey[i];
                case 3:
                    return wroteColumns[i];
                default:
                    return NONE;
            }
        }

        int perform(Unit unit) {
            begin();
            arrange(unit);
            runHooks(Thing.NEW);
            runHooks(Thing.LOADED);
            before.copyFrom(rows);
            if (insertAll(unit) && changeAll() && deleteAll()) {
                settle();
            } else {
                rows.copyFrom(before);
            }
            if (result == STALE) {
                unit.open = false;
            }
            return result;
        }

        private void begin() {
            result = DONE;
            atClass = NONE;
            atKey = NONE;
            atMember = NONE;
            atRule = NONE;
            writes = 0;
        }

        /** Puts what may be written in order, by class and key. */
        private void arrange(Unit unit) {
            ordered = 0;
            for (int i = 0; i < unit.used; i++) {
                Thing thing = unit.things[i];
                thing.written = false;
                thing.putOff = 0;
                if (thing.isLive() || thing.state == Thing.DROPPED) {
                    int at = ordered;
                    while (at > 0 && thing.isAhead(order[at - 1])) {
                        order[at] = order[at - 1];
                        at--;
                    }
                    order[at] = thing;
                    ordered++;
                }
            }
        }

        private void runHooks(int state) {
            for (int i = 0; i < ordered; i++) {
                Thing thing = order[i];
                if (thing.state == state && (state == Thing.NEW || thing.changes() != 0)) {
                    rows.schema.runHooks(thing, state == Thing.NEW);
                }
            }
        }

        private int countIn(int state) {
            int total = 0;
            for (int i = 0; i < ordered; i++) {
                if (order[i].state == state) {
                    total++;
                }
            }
            return total;
        }

        private Thing firstUnwritten(int state) {
            for (int i = 0; i < ordered; i++) {
                if (order[i].state == state && !order[i].written) {
                    return order[i];
                }
            }
            return null;
        }

        private boolean insertAll(Unit unit) {
            int total = countIn(Thing.NEW);
            for (int n = 0; n < total; n++) {
                Thing next = nextInsert(unit);
                if (next == null) {
                    return breakOff(CIRCLE, firstUnwritten(Thing.NEW), NONE, NONE);
                }
                if (!insert(next)) {
                    return false;
                }
            }
            return true;
        }

        /** The next one to insert, with its references put off if there must be some: null if there is none. */
        private Thing nextInsert(Unit unit) {
            Thing next = null;
            int putOff = 0;
            for (int i = 0; i < ordered; i++) {
                Thing thing = order[i];
                if (thing.state == Thing.NEW && !thing.written) {
                    int early = earlyReferences(unit, thing);
                    if (early == 0) {
                        return thing;
                    }
                    if (next == null && !hasMust(thing, early)) {
                        next = thing;
                        putOff = early;
                    }
                }
            }
            if (next != null) {
                next.putOff = putOff;
            }
            return next;
        }

        /** A bit for each reference that leads to another new one that isn't inserted yet. */
        private int earlyReferences(Unit unit, Thing thing) {
            Kind kind = rows.schema.kind[thing.kind];
            int bits = 0;
            for (int m = 0; m < kind.members; m++) {
                if (kind.member[m].sort == Member.REFERENCE && thing.values[m] != 0) {
                    int family = rows.schema.rootOf(kind.member[m].target);
                    Thing led = unit.thingFor(family, thing.values[m]);
                    if (led != null && led != thing && led.state == Thing.NEW && !led.written) {
                        bits |= 1 << m;
                    }
                }
            }
            return bits;
        }

        private boolean hasMust(Thing thing, int members) {
            Kind kind = rows.schema.kind[thing.kind];
            for (int m = 0; m < kind.members; m++) {
                if ((members >> m & 1) != 0 && kind.member[m].has(Member.MUST)) {
                    return true;
                }
            }
            return false;
        }

        private boolean insert(Thing thing) {
            if (rows.isFull(thing.family)) {
                return breakOff(NO_ROOM, thing, NONE, NONE);
            }
            int now = ~thing.putOff;
            if (!keepsRules(thing, now)) {
                return false;
            }
            int row = rows.add(thing.family, thing.key, thing.kind);
            for (int m = 0; m < MEMBER_ROOM; m++) {
                rows.set(row, m, (now >> m & 1) != 0 ? thing.values[m] : 0);
            }
            thing.written = true;
            noteWrite(INSERT, thing, 0);
            return true;
        }

        /** Whether the values of some members keep all rules; the first one that does not breaks off. */
        private boolean keepsRules(Thing thing, int members) {
            for (int m = 0; m < MEMBER_ROOM; m++) {
                if ((members >> m & 1) != 0) {
                    int rule = rows.brokenRule(thing.kind, thing.key, m, thing.values[m]);
                    if (rule != NONE) {
                        return breakOff(RULE_BROKEN, thing, m, rule);
                    }
                }
            }
            return true;
        }

        private boolean changeAll() {
            for (int i = 0; i < ordered; i++) {
                Thing thing = order[i];
                int members = thing.putOff;
                if (thing.state == Thing.LOADED) {
                    members = thing.changes();
                }
                if (members != 0 && !change(thing, members)) {
                    return false;
                }
            }
            return true;
        }

        private boolean change(Thing thing, int members) {
            int row = rows.rowOf(thing.family, thing.key);
            if (row == NONE || thing.state == Thing.LOADED && rows.version[row] != thing.version) {
                return breakOff(STALE, thing, NONE, NONE);
            }
            if (!keepsRules(thing, members)) {
                return false;
            }
            for (int m = 0; m < MEMBER_ROOM; m++) {
                if ((members >> m & 1) != 0) {
                    rows.set(row, m, thing.values[m]);
                }
            }
            rows.version[row]++;
            thing.written = true;
            noteWrite(CHANGE, thing, Integer.bitCount(members));
            return true;
        }

        private boolean deleteAll() {
            int total = countIn(Thing.DROPPED);
            for (int n = 0; n < total; n++) {
                Thing next = nextDelete();
                if (next != null && !delete(next)) {
                    return false;
                }
            }
            return true;
        }

        private Thing nextDelete() {
            for (int i = 0; i < ordered; i++) {
                Thing thing = order[i];
                if (thing.state == Thing.DROPPED && !thing.written
                        && rows.leadingMember(thing.family, thing.key) == NONE) {
                    return thing;
                }
            }
            return firstUnwritten(Thing.DROPPED);
        }

        private boolean delete(Thing thing) {
            int row = rows.rowOf(thing.family, thing.key);
            if (row == NONE || rows.version[row] != thing.version) {
                return breakOff(STALE, thing, NONE, NONE);
            }
            int leading = rows.leadingMember(thing.family, thing.key);
            if (leading != NONE) {
                return breakOff(RULE_BROKEN, thing, leading, Rows.RULE_LEADS);
            }
            rows.remove(thing.family, row);
            thing.written = true;
            noteWrite(DELETE, thing, 0);
            return true;
        }

        private void settle() {
            for (int i = 0; i < ordered; i++) {
                Thing thing = order[i];
                if (thing.state == Thing.DROPPED) {
                    thing.state = Thing.GONE;
                } else if (thing.written) {
                    int row = rows.rowOf(thing.family, thing.key);
                    thing.keepCopy(row == NONE ? thing.version : rows.version[row]);
                }
            }
        }

        private void noteWrite(int how, Thing thing, int columns) {
            if (writes < wroteHow.length) {
                wroteHow[writes] = how;
                wroteClass[writes] = thing.kind;
                wroteKey[writes] = thing.key;
                wroteColumns[writes] = columns;
                writes++;
            }
        }

        private boolean breakOff(int outcome, Thing at, int member, int rule) {
            result = outcome;
            if (at != null) {
                atClass = at.kind;
                atKey = at.key;
            }
            atMember = member;
            atRule = rule;
            return false;
        }
    }
}
