import java.util.Arrays;

/**
 * A bench for programs of the Featherweight Go with type parameters: they are read from a tape and
 * checked, run step by step, and the instances that a run can need are made ahead.
 *
 * <p>A TYPE is held as its WORDS in the order of the text, each as a code: a type's number, or a
 * PARAM's. As each type has a known number of FORMALS, the signs between the WORDS need not be kept.
 */
public final class FeatherBench {
    public static final int NONE = -1;

    private static final int MOST_SIGNS = 4000;
    private static final int MOST_OUT = 2000;
    private static final int MOST_LETTERS = 12;
    private static final int MOST_TYPES = 24;
    private static final int MOST_FUNCS = 60;
    private static final int MOST_IN_LIST = 6;
    private static final int MOST_WITHIN = 10;
    private static final int MOST_POINTS = 20;
    private static final int MOST_WORDS = 60;
    private static final int MOST_CALLS = 40;
    private static final int MOST_STEPS = 5000;
    private static final int MOST_STEPS_IN_ALL = 60000;
    private static final int MOST_INSTANCES = 150;
    private static final int FAR_BEYOND = 1000000;

    /** What TYPES on the tape are answered with when they are told rightly, but are no good. */
    private static final int ILL_FORMED = -2;
    private static final int NOT_MADE = -3;

    // Kinds of tokens; a sign's kind is the sign itself.
    private static final int END = 0;
    private static final int WORD = 1;
    private static final int BAD = 2;
    private static final int TYPE = 3;
    private static final int STRUCT = 4;
    private static final int INTERFACE = 5;
    private static final int FUNC = 6;
    private static final int RETURN = 7;
    private static final int MAIN = 8;

    // Kinds of faults.
    private static final int FINE = 0;
    private static final int MISPLACED = 1;
    private static final int UNKNOWN = 2;
    private static final int TWICE = 3;
    private static final int UNEVEN = 4;
    private static final int TOO_MANY = 5;
    private static final int WRONG_FORM = 6;
    private static final int UNMET = 7;
    private static final int HOLDS_ITSELF = 8;
    private static final int TOO_GREAT = 9;

    // How a run ends.
    private static final int VALUE = 0;
    private static final int FAILS = 1;
    private static final int SPENT = 2;
    private static final int DEEP = 3;
    private static final int GREAT = 4;
    private static final int RUNNING = 5;

    // Codes of WORDS: types from 0, then the PARAMS of a type or a func's NAME, then those of a
    // METHOD, then the stand-ins for FORMALS of two METHODS that are held against each other.
    private static final int FIRST_PARAM = MOST_TYPES;
    private static final int FIRST_OF_METHOD = FIRST_PARAM + MOST_IN_LIST;
    private static final int PARAMS = 2 * MOST_IN_LIST;
    private static final int STAND_INS = PARAMS;
    private static final int SINGLE_WORDS = PARAMS + MOST_IN_LIST;

    // Zones of a program's row of WORDS: each PARAM by itself; what a check puts for a while; what
    // the latest run put; the instances; what the text tells.
    private static final int SCRATCH = SINGLE_WORDS;
    private static final int RUN_ZONE = SCRATCH + 4200;
    private static final int MADE_ZONE = RUN_ZONE + MOST_STEPS + 400;
    private static final int KEPT = MADE_ZONE + (MOST_INSTANCES + 2) * MOST_WORDS;
    private static final int MOST_KEPT = MOST_SIGNS + MOST_SIGNS / 4 * MOST_WORDS + 200;

    // Cells of a type.
    private static final int T_NAME = 0;
    private static final int T_FORM = 1;
    private static final int T_FORMALS = 2;
    private static final int T_MEMBERS = 3;
    private static final int T_MEMBER_COUNT = 4;
    private static final int T_FUNC = 5;
    private static final int T_CELLS = 6;

    // Cells of a func.
    private static final int F_NAME = 0;
    private static final int F_VAR = 1;
    private static final int F_STRUCT = 2;
    private static final int F_PARAMS = 3;
    private static final int F_PARAM_COUNT = 4;
    private static final int F_SIG = 5;
    private static final int F_WORD = 6;
    private static final int F_BODY = 7;
    private static final int F_CODE = 8;
    private static final int F_NEXT = 9;
    private static final int F_CELLS = 10;

    // Cells of a HEAD; its slots are its FORMALS, its VARS and the one of its TYPE, in this order.
    private static final int S_NAME = 0;
    private static final int S_WORD = 1;
    private static final int S_SLOTS = 2;
    private static final int S_FORMAL_COUNT = 3;
    private static final int S_VAR_COUNT = 4;
    private static final int S_CELLS = 5;

    // Cells of a slot: a name with a TYPE, either of which may be missing (-1).
    private static final int L_NAME = 0;
    private static final int L_KIND = 1;
    private static final int L_TOLD = 2;
    private static final int L_WORDS = 3;
    private static final int L_SIG = 4;
    private static final int L_CELLS = 5;

    // Kinds of slots.
    private static final int FORMAL = 0;
    private static final int PARAM = 1;
    private static final int FIELD = 2;
    private static final int VAR = 3;
    private static final int RESULT = 4;

    // Cells of a declaration: a type's number, or -1 - a func's; from which slot to which.
    private static final int D_WHAT = 0;
    private static final int D_FROM = 1;
    private static final int D_TO = 2;
    private static final int D_CELLS = 3;

    // What an E is turned into: its parts come ahead of what is done with them.
    private static final int DO_LEAVE = 0;
    private static final int DO_VAR = 1;
    private static final int DO_OPEN = 2;
    private static final int DO_MAKE = 3;
    private static final int DO_FIELD = 4;
    private static final int DO_CALL = 5;
    private static final int DO_CAST = 6;

    // Cells of a piece of code.
    private static final int C_DO = 0;
    private static final int C_WHAT = 1;
    private static final int C_COUNT = 2;
    private static final int C_POINT = 2;
    private static final int C_TOLD = 3;
    private static final int C_TOLD_COUNT = 4;
    private static final int C_AHEAD = 5;
    private static final int C_CELLS = 6;

    private final Row tape = new Row(600, MOST_SIGNS);
    private final Shapes shapes;
    private final Reader reader;
    private final Told told;
    private final Bodies bodies;
    private final Asked asked;
    private final Machine machine;
    private final Stock stock;
    private final Press press;
    private Program current;
    private Program spare;
    private boolean loaded;
    private int stepsInAll;

    public FeatherBench() {
        Program none = new Program();
        current = none;
        spare = new Program();
        shapes = new Shapes(none);
        reader = new Reader(none);
        told = new Told(none, shapes);
        bodies = new Bodies(none, shapes, told);
        asked = new Asked(shapes, told);
        machine = new Machine(none, shapes);
        stock = new Stock(none, shapes);
        press = new Press(none);
    }

    public int feed(long a, long b, long c) {
        takeSigns(a);
        takeSigns(b);
        takeSigns(c);
        return tape.size;
    }

    public int program() {
        Program next = spare;
        next.begin(tape);
        tape.clear();
        shapes.use(next, SCRATCH);
        reader.read(next);
        told.findTwice(next);
        told.tellAll(next);
        told.lookAtAll(next);
        told.findHoldingItself(next);
        bodies.check(next);
        if (next.fault != FINE) {
            return next.fault;
        }
        spare = current;
        current = next;
        loaded = true;
        machine.forget();
        stock.forget();
        return 0;
    }

    public int implementing() {
        int read = readTape(2);
        if (read != FINE) {
            return read;
        }
        int kind = shapes.meets(asked.first, asked.second);
        if (kind == TOO_GREAT) {
            return ILL_FORMED;
        }
        return kind == FINE ? 1 : 0;
    }

    public int run(int n) {
        if (!loaded || n < 1 || n > MOST_STEPS) {
            return NONE;
        }
        shapes.use(current, RUN_ZONE);
        machine.start(current, Math.min(n, MOST_STEPS_IN_ALL - stepsInAll));
        machine.go();
        stepsInAll += machine.steps;
        return machine.outcome;
    }

    public int failed() {
        return machine.outcome == FAILS ? machine.failedAt : NONE;
    }

    public int calls() {
        return machine.callCount;
    }

    public int instances() {
        if (!loaded) {
            return NONE;
        }
        if (!stock.tried) {
            shapes.use(current, SCRATCH);
            stock.make(current);
        }
        return made(2);
    }

    public int made(int what) {
        if (!stock.complete) {
            return NONE;
        }
        switch (what) {
            case 0:
                return stock.types.size;
            case 1:
                return stock.callCount();
            case 2:
                return stock.methodCount();
            default:
                return NONE;
        }
    }

    public int isMade() {
        int read = readTape(1);
        if (read != FINE) {
            return read;
        }
        if (!stock.complete) {
            return NOT_MADE;
        }
        return stock.find(asked.first) >= 0 ? 1 : 0;
    }

    public int print(int what) {
        if (what == 0 && loaded) {
            press.begin(current);
            press.putType(current.mainType);
            return press.signs.size;
        }
        if (what == 1 && machine.outcome == VALUE) {
            press.begin(current);
            press.putValue(machine.values, machine.result);
            return press.signs.size;
        }
        return NONE;
    }

    public int out(int i) {
        return i >= 0 && i < press.signs.size ? press.signs.get(i) : NONE;
    }

    public int count(int what) {
        switch (what) {
            case 0:
                return loaded ? current.typeCount() : 0;
            case 1:
                return loaded ? current.funcCount() : 0;
            case 2:
                return stepsInAll;
            case 3:
                return machine.steps;
            case 4:
                return tape.size;
            case 5:
                return loaded ? 1 : 0;
            default:
                return NONE;
        }
    }

    private void takeSigns(long signs) {
        for (int shift = 56; shift >= 0; shift -= 8) {
            int sign = (int) (signs >>> shift) & 255;
            if (sign == '\n' || sign >= ' ' && sign <= '~') {
                tape.add(sign);
            }
        }
    }

    private int readTape(int types) {
        asked.text.scan(tape);
        tape.clear();
        return loaded ? asked.read(current, types) : NONE;
    }

    /** A row of numbers that may be asked at any place: where it holds nothing it answers 0. */
    private static final class Row {
        private final int limit;
        private int[] cells;
        private int size;

        Row(int room, int limit) {
            this.limit = Math.max(limit, 1);
            cells = new int[Math.min(Math.max(room, 1), this.limit)];
        }

        int get(int i) {
            return i >= 0 && i < cells.length ? cells[i] : 0;
        }

        void set(int i, int value) {
            if (i < 0 || i >= limit) {
                return;
            }
            if (i >= cells.length) {
                cells = Arrays.copyOf(cells, Math.min(limit, Math.max(i + 1, 2 * cells.length)));
            }
            cells[i] = value;
        }

        void add(int value) {
            if (size < limit) {
                set(size, value);
                size++;
            }
        }

        void clear() {
            size = 0;
        }
    }

    /** Signs and the tokens that they make. */
    private static final class Text {
        private static final int HEADS = 64;

        private final Row signs = new Row(600, MOST_SIGNS);
        private final Row kinds = new Row(300, MOST_SIGNS + 2);
        private final Row places = new Row(300, MOST_SIGNS + 2);
        private final Row lengths = new Row(300, MOST_SIGNS + 2);
        /** Of a WORD, the first token that is the same WORD. */
        private final Row words = new Row(300, MOST_SIGNS + 2);
        /** How many stand in a list: at its opening sign, but for E of a METHOD at the METHOD. */
        private final Row lists = new Row(300, MOST_SIGNS + 2);
        private final Row heads = new Row(HEADS, HEADS);
        private final Row chain = new Row(300, MOST_SIGNS + 2);

        void scan(Row tape) {
            signs.clear();
            for (int i = 0; i < tape.size; i++) {
                signs.add(tape.get(i));
            }
            for (int i = 0; i < HEADS; i++) {
                heads.set(i, 0);
            }
            kinds.clear();
            int at = 0;
            for (int i = 0; i < MOST_SIGNS && at < signs.size; i++) {
                at = takeToken(at);
            }
            addToken(END, signs.size, 0);
            // a look behind the end sees another end
            kinds.set(kinds.size, END);
        }

        boolean same(int token, Text other, int otherToken) {
            int length = lengths.get(token);
            if (length != other.lengths.get(otherToken)) {
                return false;
            }
            int place = places.get(token);
            int otherPlace = other.places.get(otherToken);
            for (int i = 0; i < length; i++) {
                if (signs.get(place + i) != other.signs.get(otherPlace + i)) {
                    return false;
                }
            }
            return true;
        }

        private int takeToken(int at) {
            int sign = signs.get(at);
            if (sign == '\n' || sign == ' ') {
                return at + 1;
            }
            if (!isLetter(sign)) {
                addToken(isSign(sign) ? sign : BAD, at, 1);
                return at + 1;
            }
            int end = at + 1;
            while (end < signs.size && (isLetter(signs.get(end)) || isDigit(signs.get(end)))) {
                end++;
            }
            addToken(end - at > MOST_LETTERS ? BAD : wordKind(at, end - at), at, end - at);
            return end;
        }

        private void addToken(int kind, int place, int length) {
            int token = kinds.size;
            kinds.add(kind);
            places.set(token, place);
            lengths.set(token, length);
            words.set(token, kind == WORD ? firstLike(token) : token);
        }

        private int firstLike(int token) {
            int sum = 0;
            for (int i = 0; i < lengths.get(token); i++) {
                sum = sum * 31 + signs.get(places.get(token) + i);
            }
            int head = sum & (HEADS - 1);
            int like = heads.get(head) - 1;
            for (int i = 0; i < MOST_SIGNS && like >= 0; i++) {
                if (same(like, this, token)) {
                    return like;
                }
                like = chain.get(like) - 1;
            }
            chain.set(token, heads.get(head));
            heads.set(head, token + 1);
            return token;
        }

        private int wordKind(int place, int length) {
            switch (signs.get(place)) {
                case 't':
                    return spells(place, length, "type") ? TYPE : WORD;
                case 's':
                    return spells(place, length, "struct") ? STRUCT : WORD;
                case 'i':
                    return spells(place, length, "interface") ? INTERFACE : WORD;
                case 'f':
                    return spells(place, length, "func") ? FUNC : WORD;
                case 'r':
                    return spells(place, length, "return") ? RETURN : WORD;
                case 'm':
                    return spells(place, length, "main") ? MAIN : WORD;
                default:
                    return WORD;
            }
        }

        private boolean spells(int place, int length, String word) {
            if (length != word.length()) {
                return false;
            }
            for (int i = 0; i < word.length(); i++) {
                if (signs.get(place + i) != word.charAt(i)) {
                    return false;
                }
            }
            return true;
        }

        private static boolean isLetter(int sign) {
            return sign >= 'a' && sign <= 'z' || sign >= 'A' && sign <= 'Z';
        }

        private static boolean isDigit(int sign) {
            return sign >= '0' && sign <= '9';
        }

        private static boolean isSign(int sign) {
            switch (sign) {
                case '{':
                case '}':
                case '(':
                case ')':
                case '[':
                case ']':
                case ',':
                case ';':
                case '.':
                    return true;
                default:
                    return false;
            }
        }
    }

    /** What a program's text tells, in tables. */
    private static final class Program {
        private final Text text = new Text();
        private final Row words = new Row(KEPT + 1000, KEPT + MOST_KEPT);
        /** The tokens of the WORDS that are kept, from the first of these on. */
        private final Row tokens = new Row(300, MOST_KEPT);
        private final Row arities = new Row(MOST_TYPES, MOST_TYPES);
        private final Row types = new Row(MOST_TYPES * T_CELLS, MOST_TYPES * T_CELLS);
        private final Row funcs = new Row(10 * F_CELLS, MOST_FUNCS * F_CELLS);
        private final Row sigs = new Row(20 * S_CELLS, MOST_SIGNS * S_CELLS);
        private final Row slots = new Row(80 * L_CELLS, MOST_SIGNS * L_CELLS);
        private final Row decls = new Row(30 * D_CELLS, (MOST_TYPES + MOST_FUNCS) * D_CELLS);
        private final Row code = new Row(100 * C_CELLS, MOST_SIGNS * C_CELLS);
        private int kept;
        private int mainBody;
        private int mainCode;
        private int mainType;
        private int fault;

        Program() {
            for (int i = 0; i < SINGLE_WORDS; i++) {
                words.set(i, FIRST_PARAM + i);
            }
        }

        void begin(Row tape) {
            text.scan(tape);
            types.clear();
            funcs.clear();
            sigs.clear();
            slots.clear();
            decls.clear();
            code.clear();
            kept = KEPT;
            fault = FINE;
        }

        /** The first fault that is found stays. */
        void blame(int kind, int token) {
            if (fault == FINE && kind != FINE) {
                fault = kind + 16 * text.places.get(token);
            }
        }

        int type(int type, int cell) {
            return types.get(type * T_CELLS + cell);
        }

        int func(int func, int cell) {
            return funcs.get(func * F_CELLS + cell);
        }

        int sig(int sig, int cell) {
            return sigs.get(sig * S_CELLS + cell);
        }

        int slot(int slot, int cell) {
            return slots.get(slot * L_CELLS + cell);
        }

        int decl(int decl, int cell) {
            return decls.get(decl * D_CELLS + cell);
        }

        int typeCount() {
            return types.size / T_CELLS;
        }

        int funcCount() {
            return funcs.size / F_CELLS;
        }

        int sigCount() {
            return sigs.size / S_CELLS;
        }

        int slotCount() {
            return slots.size / L_CELLS;
        }

        int declCount() {
            return decls.size / D_CELLS;
        }

        boolean isStruct(int code) {
            return code < typeCount() && types.get(code * T_CELLS + T_FORM) == STRUCT;
        }

        boolean isInterface(int code) {
            return code < typeCount() && types.get(code * T_CELLS + T_FORM) == INTERFACE;
        }

        int typeNamed(Text other, int token) {
            for (int t = 0; t < typeCount(); t++) {
                if (text.same(type(t, T_NAME), other, token)) {
                    return t;
                }
            }
            return NONE;
        }

        /** The HEAD of a type's METHOD of that name. */
        int sigOf(int code, int word) {
            if (isStruct(code)) {
                int func = funcOf(code, word);
                return func < 0 ? NONE : func(func, F_SIG);
            }
            if (!isInterface(code)) {
                return NONE;
            }
            int first = type(code, T_MEMBERS);
            for (int i = 0; i < type(code, T_MEMBER_COUNT); i++) {
                if (sig(first + i, S_WORD) == word) {
                    return first + i;
                }
            }
            return NONE;
        }

        int funcOf(int struct, int word) {
            int func = types.get(struct * T_CELLS + T_FUNC);
            for (int i = 0; i < MOST_FUNCS && func >= 0; i++) {
                if (funcs.get(func * F_CELLS + F_WORD) == word) {
                    return func;
                }
                func = funcs.get(func * F_CELLS + F_NEXT);
            }
            return NONE;
        }

        void addSlot(int name, int kind, int told, int sig) {
            slots.add(name);
            slots.add(kind);
            slots.add(told);
            slots.add(NONE);
            slots.add(sig);
        }

        void addSig(int name, int slots, int formals, int vars) {
            sigs.add(name);
            sigs.add(text.words.get(name));
            sigs.add(slots);
            sigs.add(formals);
            sigs.add(vars);
        }

        void addType(int name, int form, int slots, int formals, int members, int memberCount) {
            arities.set(typeCount(), formals);
            addDecl(typeCount(), slots);
            types.add(name);
            types.add(form);
            types.add(slots);
            types.add(members);
            types.add(memberCount);
            types.add(NONE);
        }

        void addFunc(int name, int var, int slots, int params, int sig, int body) {
            addDecl(-1 - funcCount(), slots);
            funcs.add(name);
            funcs.add(var);
            funcs.add(NONE);
            // the first of its slots is the one of its VAR
            funcs.add(slots + 1);
            funcs.add(params);
            funcs.add(sig);
            funcs.add(sig(sig, S_WORD));
            funcs.add(body);
            funcs.add(NONE);
            funcs.add(NONE);
        }

        private void addDecl(int what, int slots) {
            decls.add(what);
            decls.add(slots);
            decls.add(slotCount());
        }

        void addCode(int what, int a, int b, int told, int toldCount, int ahead) {
            code.add(what);
            code.add(a);
            code.add(b);
            code.add(told);
            code.add(toldCount);
            code.add(ahead);
        }
    }

    /** Reads a text's tokens as a program. Behind a fault none of its steps goes on. */
    private static final class Reader {
        private Program p;
        private Text text;
        private Row kinds;
        private int at;

        Reader(Program p) {
            this.p = p;
            text = p.text;
            kinds = text.kinds;
        }

        void read(Program program) {
            p = program;
            text = p.text;
            kinds = text.kinds;
            at = 0;
            for (int i = 0; i < MOST_SIGNS && p.fault == FINE && kinds.get(at) != MAIN; i++) {
                if (kinds.get(at) == FUNC) {
                    readFunc();
                } else {
                    readType();
                }
            }
            expect(MAIN);
            p.mainBody = at;
            passValue(1, 0);
            expect(';');
            expect(END);
        }

        private void readType() {
            if (kinds.get(at) == TYPE && p.typeCount() >= MOST_TYPES) {
                p.blame(TOO_MANY, at);
            }
            expect(TYPE);
            int slots = p.slotCount();
            int name = at;
            expect(WORD);
            int formals = took('[') ? readNamed(']', FORMAL, NONE) : 0;
            boolean struct = took(STRUCT);
            if (!struct) {
                expect(INTERFACE);
            }
            expect('{');
            int members = struct ? p.slotCount() : p.sigCount();
            int n = 0;
            while (n <= MOST_IN_LIST && p.fault == FINE && kinds.get(at) != '}') {
                int member = at;
                expectFirst(n >= MOST_IN_LIST);
                if (struct) {
                    p.addSlot(member, FIELD, at, NONE);
                    passType(1, 0);
                } else {
                    readHead(member);
                }
                expect(';');
                n++;
            }
            expect('}');
            p.addType(name, struct ? STRUCT : INTERFACE, slots, formals, members, n);
        }

        private void readFunc() {
            if (p.funcCount() >= MOST_FUNCS) {
                p.blame(TOO_MANY, at);
            }
            expect(FUNC);
            expect('(');
            int slots = p.slotCount();
            int sig = p.sigCount();
            int var = at;
            expect(WORD);
            p.addSlot(var, VAR, NONE, sig);
            int name = at;
            expect(WORD);
            int params = took('[') ? readParams(sig) : 0;
            expect(')');
            int method = at;
            expect(WORD);
            readHead(method);
            expect('{');
            expect(RETURN);
            int body = at;
            passValue(1, 0);
            expect('}');
            p.addFunc(name, var, slots, params, sig, body);
        }

        private int readParams(int sig) {
            int n = 0;
            do {
                p.addSlot(at, PARAM, NONE, sig);
                expectFirst(n >= MOST_IN_LIST);
                n++;
            } while (n <= MOST_IN_LIST && took(','));
            expect(']');
            return n;
        }

        /** Reads names, each with a TYPE behind it, with , between. */
        private int readNamed(int close, int kind, int sig) {
            int n = 0;
            do {
                int name = at;
                expectFirst(n >= MOST_IN_LIST);
                p.addSlot(name, kind, at, sig);
                passType(1, 0);
                n++;
            } while (n <= MOST_IN_LIST && took(','));
            expect(close);
            return n;
        }

        private void readHead(int name) {
            int sig = p.sigCount();
            int slots = p.slotCount();
            int formals = took('[') ? readNamed(']', FORMAL, sig) : 0;
            expect('(');
            int vars = took(')') ? 0 : readNamed(')', VAR, sig);
            p.addSlot(NONE, RESULT, at, sig);
            passType(1, 0);
            p.addSig(name, slots, formals, vars);
        }

        private void passType(int within, int n) {
            expectFirst(within > MOST_WITHIN || n >= MOST_IN_LIST);
            if (p.fault == FINE && kinds.get(at) == '[') {
                passTypes(within);
            }
        }

        private void passTypes(int within) {
            int open = at;
            expect('[');
            int n = 0;
            do {
                passType(within + 1, n);
                n++;
            } while (n <= MOST_IN_LIST && took(','));
            expect(']');
            text.lists.set(open, n);
        }

        private void passValue(int within, int n) {
            int first = at;
            expectFirst(within > MOST_WITHIN || n >= MOST_IN_LIST);
            if (p.fault == FINE && (kinds.get(at) == '{' || kinds.get(at) == '[')) {
                at = first;
                // TYPES and E are counted together: a TYPE of an E stands within it
                passType(within + 1, 0);
                passValues('{', '}', at, within);
            }
            for (int i = 0; i <= MOST_POINTS && p.fault == FINE && kinds.get(at) == '.'; i++) {
                if (i == MOST_POINTS) {
                    p.blame(TOO_MANY, at);
                } else {
                    passPoint(within);
                }
            }
        }

        private void passPoint(int within) {
            expect('.');
            if (took('(')) {
                passType(within + 1, 0);
                expect(')');
                return;
            }
            int name = at;
            expect(WORD);
            boolean told = p.fault == FINE && kinds.get(at) == '[';
            if (told) {
                passTypes(within);
            }
            if (told || kinds.get(at) == '(') {
                passValues('(', ')', name, within);
            }
        }

        private void passValues(int open, int close, int countAt, int within) {
            expect(open);
            int n = 0;
            if (p.fault == FINE && kinds.get(at) != close) {
                do {
                    passValue(within + 1, n);
                    n++;
                } while (n <= MOST_IN_LIST && took(','));
            }
            expect(close);
            text.lists.set(countAt, n);
        }

        private boolean took(int kind) {
            boolean here = p.fault == FINE && kinds.get(at) == kind;
            if (here) {
                at++;
            }
            return here;
        }

        private void expect(int kind) {
            if (p.fault == FINE && kinds.get(at) != kind) {
                p.fault = MISPLACED + 16 * text.places.get(at);
            }
            if (p.fault == FINE) {
                at++;
            }
        }

        /** Passes the WORD with which something begins of which there may be one too many. */
        private void expectFirst(boolean tooMany) {
            if (p.fault == FINE && tooMany && kinds.get(at) == WORD) {
                p.fault = TOO_MANY + 16 * text.places.get(at);
            }
            if (p.fault == FINE && kinds.get(at) != WORD) {
                p.fault = MISPLACED + 16 * text.places.get(at);
            }
            if (p.fault == FINE) {
                at++;
            }
        }
    }

    /** Puts types for PARAMS, and tells whether one type implements another. */
    private static final class Shapes {
        private Program p;
        private Row words;
        private Row arities;
        /** Where the next type that comes to be is put. */
        private int top;
        // whose PARAMS hold: a type's, under the names of these slots, and a HEAD's
        private int scopeType;
        private int scopeNames;
        private int scopeSig;
        private final Row env = new Row(2 * PARAMS, 2 * PARAMS);
        private final Row mine = new Row(2 * PARAMS, 2 * PARAMS);
        private final Row theirs = new Row(2 * PARAMS, 2 * PARAMS);

        Shapes(Program p) {
            this.p = p;
            words = p.words;
            arities = p.arities;
        }

        void use(Program program, int zone) {
            p = program;
            words = p.words;
            arities = p.arities;
            top = zone;
            enter(NONE, NONE, NONE);
        }

        void enter(int type, int names, int sig) {
            scopeType = type;
            scopeNames = names;
            scopeSig = sig;
        }

        /** Where the type that begins there is over. */
        int end(int type) {
            int at = type;
            int open = 1;
            for (int i = 0; i < MOST_SIGNS && open > 0; i++) {
                open += arities.get(words.get(at)) - 1;
                at++;
            }
            return at;
        }

        boolean same(int a, int b) {
            int open = 1;
            for (int i = 0; i < MOST_WORDS && open > 0; i++) {
                int code = words.get(a + i);
                if (code != words.get(b + i)) {
                    return false;
                }
                open += arities.get(code) - 1;
            }
            return true;
        }

        void bind(Row env, int param, int type) {
            env.set(param, type);
            env.set(PARAMS + param, end(type));
        }

        /** Makes ready to put a type's TYPES, and others that stand one behind another. */
        void fill(Row env, int type, int told, int toldCount) {
            int count = arities.get(words.get(type));
            int at = type + 1;
            for (int i = 0; i < PARAMS; i++) {
                if (i == MOST_IN_LIST) {
                    count = MOST_IN_LIST + toldCount;
                    at = told;
                }
                // a PARAM for which there is nothing stays as it is
                int from = i < count ? at : i;
                int to = end(from);
                env.set(i, from);
                env.set(PARAMS + i, to);
                at = i < count ? to : at;
            }
        }

        /** The type with what env has for its PARAMS: itself if it has none, NONE if too great. */
        int put(int type, Row env) {
            int size = 0;
            int open = 1;
            boolean plain = true;
            for (int i = type; i < type + MOST_WORDS && open > 0; i++) {
                int code = words.get(i);
                int param = code - FIRST_PARAM;
                int from = param < 0 ? i : env.get(param);
                int to = param < 0 ? i + 1 : env.get(PARAMS + param);
                if (size + to - from > MOST_WORDS) {
                    return NONE;
                }
                for (int j = from; j < to; j++) {
                    words.set(top + size, words.get(j));
                    size++;
                }
                plain = plain && param < 0;
                open += arities.get(code) - 1;
            }
            if (plain) {
                return type;
            }
            top += size;
            return top - size;
        }

        /** FINE if type a implements type b, else UNMET; TOO_GREAT if that can't be told. */
        int meets(int a, int b) {
            int face = words.get(b);
            if (!p.isInterface(face)) {
                return same(a, b) ? FINE : UNMET;
            }
            int owner = methodOwner(a);
            fill(mine, owner, STAND_INS, MOST_IN_LIST);
            fill(theirs, b, STAND_INS, MOST_IN_LIST);
            int first = p.type(face, T_MEMBERS);
            for (int i = 0; i < p.type(face, T_MEMBER_COUNT); i++) {
                int sig = p.sigOf(words.get(owner), p.sig(first + i, S_WORD));
                int kind = sig < 0 ? UNMET : alike(first + i, sig);
                if (kind != FINE) {
                    return kind;
                }
            }
            return FINE;
        }

        private int alike(int theirSig, int mySig) {
            int formals = p.sig(theirSig, S_FORMAL_COUNT);
            int vars = p.sig(theirSig, S_VAR_COUNT);
            if (formals != p.sig(mySig, S_FORMAL_COUNT)) {
                return UNMET;
            }
            int theirSlots = p.sig(theirSig, S_SLOTS);
            int mySlots = p.sig(mySig, S_SLOTS);
            for (int i = 0; i <= formals + vars; i++) {
                if (i == formals && vars != p.sig(mySig, S_VAR_COUNT)) {
                    return UNMET;
                }
                int mark = top;
                int their = put(p.slot(theirSlots + i, L_WORDS), theirs);
                int my = their < 0 ? NONE : put(p.slot(mySlots + i, L_WORDS), mine);
                top = mark;
                if (my < 0) {
                    return TOO_GREAT;
                }
                if (!same(their, my)) {
                    return UNMET;
                }
            }
            return FINE;
        }

        /** The type that tells a type's METHODS: of a PARAM its BOUND. */
        int methodOwner(int type) {
            int param = words.get(type) - FIRST_PARAM;
            if (param < 0) {
                return type;
            }
            if (param < MOST_IN_LIST) {
                return p.slot(p.type(scopeType, T_FORMALS) + param, L_WORDS);
            }
            return p.slot(p.sig(scopeSig, S_SLOTS) + param - MOST_IN_LIST, L_WORDS);
        }

        /** Lets go of all from mark on but for the type, and tells where that is then. */
        int settle(int type, int mark) {
            if (type < mark || type >= KEPT) {
                top = mark;
                return type;
            }
            int size = end(type) - type;
            for (int i = 0; i < size; i++) {
                words.set(mark + i, words.get(type + i));
            }
            top = mark + size;
            return mark;
        }

        /** Keeps a type for as long as the program stays. */
        int keep(int type) {
            if (type >= KEPT) {
                return type;
            }
            int from = p.kept;
            int size = end(type) - type;
            for (int i = 0; i < size; i++) {
                words.set(from + i, words.get(type + i));
            }
            p.kept = from + size;
            return from;
        }
    }

    /** Checks all that a program tells ahead of its E. */
    private static final class Told {
        private final Shapes shapes;
        private Program p;
        private Text text;

        Told(Program p, Shapes shapes) {
            this.p = p;
            this.shapes = shapes;
            text = p.text;
        }

        void use(Program program, Text source) {
            p = program;
            text = source;
        }

        /** Looks for names that are told twice: the first from the left, in whatever order. */
        void findTwice(Program program) {
            use(program, program.text);
            if (p.fault != FINE) {
                return;
            }
            int least = FAR_BEYOND;
            for (int i = 0; i < p.declCount(); i++) {
                least = Math.min(least, twiceInSlots(i));
            }
            for (int i = 0; i < p.typeCount(); i++) {
                least = Math.min(least, twiceOfType(i));
            }
            for (int i = 0; i < p.funcCount(); i++) {
                least = Math.min(least, twiceOfFunc(i));
            }
            if (least < FAR_BEYOND) {
                p.blame(TWICE, least);
            }
        }

        private int twiceInSlots(int decl) {
            boolean inFunc = p.decl(decl, D_WHAT) < 0;
            int from = p.decl(decl, D_FROM);
            for (int i = from; i < p.decl(decl, D_TO); i++) {
                int name = p.slot(i, L_NAME);
                // VARS told twice are a fault of a func alone
                boolean counts = name >= 0 && (inFunc || p.slot(i, L_KIND) != VAR);
                for (int j = from; j < i && counts; j++) {
                    if (isOneScope(j, i) && isOneWord(p.slot(j, L_NAME), name)) {
                        return name;
                    }
                }
            }
            return FAR_BEYOND;
        }

        private boolean isOneScope(int ahead, int slot) {
            int kind = p.slot(slot, L_KIND);
            int kindAhead = p.slot(ahead, L_KIND);
            return p.slot(slot, L_SIG) == p.slot(ahead, L_SIG)
                && (kind == kindAhead || kind == FORMAL && kindAhead == PARAM);
        }

        private boolean isOneWord(int token, int other) {
            return text.words.get(token) == text.words.get(other);
        }

        private int twiceOfType(int type) {
            int name = p.type(type, T_NAME);
            for (int i = 0; i < type; i++) {
                if (isOneWord(p.type(i, T_NAME), name)) {
                    return name;
                }
            }
            int first = p.type(type, T_MEMBERS);
            int count = p.isInterface(type) ? p.type(type, T_MEMBER_COUNT) : 0;
            for (int i = 0; i < count; i++) {
                for (int j = 0; j < i; j++) {
                    if (p.sig(first + i, S_WORD) == p.sig(first + j, S_WORD)) {
                        return p.sig(first + i, S_NAME);
                    }
                }
            }
            return FAR_BEYOND;
        }

        private int twiceOfFunc(int func) {
            for (int i = 0; i < func; i++) {
                if (p.func(i, F_WORD) == p.func(func, F_WORD)
                    && isOneWord(p.func(i, F_NAME), p.func(func, F_NAME))) {
                    return p.sig(p.func(func, F_SIG), S_NAME);
                }
            }
            return FAR_BEYOND;
        }

        /** Turns the TYPES told ahead of E into WORDS. */
        void tellAll(Program program) {
            use(program, program.text);
            for (int i = 0; i < p.declCount() && p.fault == FINE; i++) {
                int what = p.decl(i, D_WHAT);
                if (what < 0) {
                    bindFunc(-1 - what);
                }
                enterDecl(what);
                for (int s = p.decl(i, D_FROM); s < p.decl(i, D_TO) && p.fault == FINE; s++) {
                    tellSlot(s);
                }
            }
        }

        private void bindFunc(int func) {
            int name = p.func(func, F_NAME);
            int struct = p.typeNamed(text, name);
            if (struct < 0) {
                p.blame(UNKNOWN, name);
            } else if (!p.isStruct(struct)) {
                p.blame(WRONG_FORM, name);
            } else if (p.arities.get(struct) != p.func(func, F_PARAM_COUNT)) {
                p.blame(UNEVEN, name);
            } else {
                p.funcs.set(func * F_CELLS + F_STRUCT, struct);
                p.funcs.set(func * F_CELLS + F_NEXT, p.type(struct, T_FUNC));
                p.types.set(struct * T_CELLS + T_FUNC, func);
            }
        }

        private void enterDecl(int what) {
            if (what < 0) {
                int func = -1 - what;
                shapes.enter(p.func(func, F_STRUCT), p.func(func, F_PARAMS), NONE);
            } else {
                shapes.enter(what, p.type(what, T_FORMALS), NONE);
            }
        }

        private void tellSlot(int slot) {
            int token = p.slot(slot, L_TOLD);
            if (token < 0) {
                return;
            }
            shapes.scopeSig = p.slot(slot, L_SIG);
            int type = p.kept;
            p.slots.set(slot * L_CELLS + L_WORDS, type);
            tell(token, 1);
            if (p.slot(slot, L_KIND) == FORMAL && !p.isInterface(p.words.get(type))) {
                p.blame(WRONG_FORM, token);
            }
        }

        /** Keeps the TYPE at a token as WORDS, and tells the token behind it. */
        private int tell(int token, int within) {
            int code = codeOf(token);
            boolean open = text.kinds.get(token + 1) == '[';
            int count = open ? text.lists.get(token + 1) : 0;
            if (code < 0) {
                p.blame(UNKNOWN, token);
            } else if (count != p.arities.get(code)) {
                p.blame(UNEVEN, token);
            }
            int from = p.kept;
            p.words.set(from, code);
            p.tokens.set(from - KEPT, token);
            p.kept = from + 1;
            int at = token + 1;
            for (int i = 0; i < count && p.fault == FINE && within <= MOST_WITHIN; i++) {
                at = tell(at + 1, within + 1);
            }
            if (p.kept - from > MOST_WORDS) {
                p.blame(TOO_GREAT, token);
            }
            return open ? at + 1 : at;
        }

        private int codeOf(int token) {
            int word = text.words.get(token);
            int slots = p.sig(shapes.scopeSig, S_SLOTS);
            int count = shapes.scopeSig < 0 ? 0 : p.sig(shapes.scopeSig, S_FORMAL_COUNT);
            for (int i = 0; i < count; i++) {
                if (text.words.get(p.slot(slots + i, L_NAME)) == word) {
                    return FIRST_OF_METHOD + i;
                }
            }
            count = p.arities.get(shapes.scopeType);
            for (int i = 0; i < count; i++) {
                if (text.words.get(p.slot(shapes.scopeNames + i, L_NAME)) == word) {
                    return FIRST_PARAM + i;
                }
            }
            return p.typeNamed(text, token);
        }

        void lookAtAll(Program program) {
            use(program, program.text);
            for (int i = 0; i < p.declCount() && p.fault == FINE; i++) {
                enterDecl(p.decl(i, D_WHAT));
                for (int s = p.decl(i, D_FROM); s < p.decl(i, D_TO) && p.fault == FINE; s++) {
                    int type = p.slot(s, L_WORDS);
                    if (type >= 0) {
                        shapes.scopeSig = p.slot(s, L_SIG);
                        lookAtBounds(type, shapes.end(type));
                    }
                }
            }
        }

        /** Looks, inner types first, whether all in [ ] meet their BOUNDS, in types side by side. */
        void lookAtBounds(int from, int to) {
            for (int last = from; last < to; last++) {
                for (int type = last; type >= from && p.fault == FINE; type--) {
                    int code = p.words.get(type);
                    boolean over = p.arities.get(code) > 0 && shapes.end(type) == last + 1;
                    int inner = type + 1;
                    for (int i = 0; over && i < p.arities.get(code); i++) {
                        int mark = shapes.top;
                        shapes.fill(shapes.env, type, 0, 0);
                        int bound = p.slot(p.type(code, T_FORMALS) + i, L_WORDS);
                        int want = shapes.put(bound, shapes.env);
                        int kind = want < 0 ? TOO_GREAT : shapes.meets(inner, want);
                        p.blame(kind, p.tokens.get(inner - KEPT));
                        shapes.top = mark;
                        inner = shapes.end(inner);
                    }
                }
            }
        }

        /** Looks for a struct from whose FIELDS a way leads back to it, by the types' names. */
        void findHoldingItself(Program program) {
            use(program, program.text);
            for (int i = 0; i < p.typeCount() && p.fault == FINE; i++) {
                int held = heldBy(i);
                for (int round = 0; round < MOST_TYPES; round++) {
                    for (int t = 0; t < p.typeCount(); t++) {
                        held |= (held >> t & 1) != 0 ? heldBy(t) : 0;
                    }
                }
                if ((held >> i & 1) != 0) {
                    p.blame(HOLDS_ITSELF, p.type(i, T_NAME));
                }
            }
        }

        private int heldBy(int type) {
            int held = 0;
            int count = p.isStruct(type) ? p.type(type, T_MEMBER_COUNT) : 0;
            for (int i = 0; i < count; i++) {
                int code = p.words.get(p.slot(p.type(type, T_MEMBERS) + i, L_WORDS));
                held |= p.isStruct(code) ? 1 << code : 0;
            }
            return held;
        }
    }

    /** Checks every E and turns it into code. */
    private static final class Bodies {
        private final Shapes shapes;
        private final Told told;
        private Program p;
        private Text text;
        private Row kinds;
        private int at;
        private int func;
        private int selfType;

        Bodies(Program p, Shapes shapes, Told told) {
            this.p = p;
            this.shapes = shapes;
            this.told = told;
            text = p.text;
            kinds = text.kinds;
        }

        void check(Program program) {
            p = program;
            text = p.text;
            kinds = text.kinds;
            told.use(p, text);
            for (int f = 0; f < p.funcCount() && p.fault == FINE; f++) {
                enterFunc(f);
                int first = at;
                int type = value(1);
                int slots = p.sig(shapes.scopeSig, S_SLOTS) + p.sig(shapes.scopeSig, S_FORMAL_COUNT);
                int result = p.slot(slots + p.sig(shapes.scopeSig, S_VAR_COUNT), L_WORDS);
                if (p.fault == FINE) {
                    p.blame(shapes.meets(type, result), first);
                }
                p.addCode(DO_LEAVE, 0, 0, 0, 0, 0);
            }
            if (p.fault != FINE) {
                return;
            }
            func = NONE;
            shapes.enter(NONE, NONE, NONE);
            shapes.top = SCRATCH;
            at = p.mainBody;
            p.mainCode = p.code.size / C_CELLS;
            int type = value(1);
            p.mainType = p.fault == FINE ? shapes.keep(type) : NONE;
            p.addCode(DO_LEAVE, 0, 0, 0, 0, 0);
        }

        private void enterFunc(int f) {
            func = f;
            int struct = p.func(f, F_STRUCT);
            shapes.enter(struct, p.func(f, F_PARAMS), p.func(f, F_SIG));
            selfType = SCRATCH;
            shapes.top = SCRATCH + 1 + p.arities.get(struct);
            p.words.set(selfType, struct);
            for (int i = 0; i < p.arities.get(struct); i++) {
                p.words.set(selfType + 1 + i, FIRST_PARAM + i);
            }
            at = p.func(f, F_BODY);
            p.funcs.set(f * F_CELLS + F_CODE, p.code.size / C_CELLS);
        }

        /** Checks the E that begins here and tells its type. */
        private int value(int within) {
            int mark = shapes.top;
            if (within > MOST_WITHIN) {
                p.blame(TOO_MANY, at);
                return mark;
            }
            int behind = kinds.get(at + 1);
            int type = behind == '{' || behind == '[' ? literal(within) : variable();
            for (int i = 0; i < MOST_POINTS && p.fault == FINE && kinds.get(at) == '.'; i++) {
                type = shapes.settle(behindPoint(type, within), mark);
            }
            return type;
        }

        /** Checks what stands behind the point here, with the type of what is ahead of it. */
        private int behindPoint(int type, int within) {
            int point = at;
            at++;
            if (kinds.get(at) != '(') {
                int next = kinds.get(at + 1);
                return next == '(' || next == '[' ? method(type, within) : field(type, point);
            }
            if (p.isStruct(p.words.get(type))) {
                p.blame(WRONG_FORM, point);
                return type;
            }
            int token = at + 1;
            int want = p.kept;
            at = told.tell(token, 1) + 1;
            told.lookAtBounds(want, p.kept);
            if (p.fault == FINE && p.isStruct(p.words.get(want))) {
                p.blame(shapes.meets(want, shapes.methodOwner(type)), token);
            }
            p.addCode(DO_CAST, want, text.places.get(point), 0, 0, 0);
            return want;
        }

        private int variable() {
            int word = text.words.get(at);
            int token = at;
            at++;
            if (func >= 0 && text.words.get(p.func(func, F_VAR)) == word) {
                p.addCode(DO_VAR, 0, 0, 0, 0, 0);
                return selfType;
            }
            int count = func < 0 ? 0 : p.sig(shapes.scopeSig, S_VAR_COUNT);
            int first = p.sig(shapes.scopeSig, S_SLOTS) + p.sig(shapes.scopeSig, S_FORMAL_COUNT);
            for (int i = 0; i < count; i++) {
                if (text.words.get(p.slot(first + i, L_NAME)) == word) {
                    p.addCode(DO_VAR, i + 1, 0, 0, 0, 0);
                    return p.slot(first + i, L_WORDS);
                }
            }
            p.blame(UNKNOWN, token);
            return selfType;
        }

        private int literal(int within) {
            int token = at;
            int type = p.kept;
            at = told.tell(at, 1);
            told.lookAtBounds(type, p.kept);
            int code = p.words.get(type);
            int count = p.type(code, T_MEMBER_COUNT);
            if (!p.isStruct(code)) {
                p.blame(WRONG_FORM, token);
            } else if (text.lists.get(at) != count) {
                p.blame(UNEVEN, token);
            }
            p.addCode(DO_OPEN, type, 0, 0, 0, 0);
            parts(p.type(code, T_MEMBERS), count, type, 0, 0, within);
            p.addCode(DO_MAKE, 0, count, 0, 0, 0);
            return type;
        }

        /** Checks the E of a list against the TYPES of slots, with a type's TYPES and those told. */
        private void parts(int slots, int count, int type, int types, int typeCount, int within) {
            at++;
            for (int i = 0; i < count && p.fault == FINE; i++) {
                int mark = shapes.top;
                int first = at;
                int part = value(within + 1);
                if (p.fault == FINE) {
                    shapes.fill(shapes.env, type, types, typeCount);
                    int want = shapes.put(p.slot(slots + i, L_WORDS), shapes.env);
                    p.blame(want < 0 ? TOO_GREAT : shapes.meets(part, want), first);
                }
                shapes.top = mark;
                // the last one has the closing sign behind it
                at += i < count - 1 ? 1 : 0;
            }
            at++;
        }

        private int field(int type, int point) {
            int token = at;
            at++;
            int code = p.words.get(type);
            if (!p.isStruct(code)) {
                p.blame(WRONG_FORM, point);
                return type;
            }
            for (int i = 0; i < p.type(code, T_MEMBER_COUNT); i++) {
                int slot = p.type(code, T_MEMBERS) + i;
                if (text.words.get(p.slot(slot, L_NAME)) == text.words.get(token)) {
                    p.addCode(DO_FIELD, i, 0, 0, 0, 0);
                    return resultType(slot, type, 0, 0, token);
                }
            }
            p.blame(UNKNOWN, token);
            return type;
        }

        private int resultType(int slot, int type, int types, int typeCount, int token) {
            shapes.fill(shapes.env, type, types, typeCount);
            int result = shapes.put(p.slot(slot, L_WORDS), shapes.env);
            if (result < 0) {
                p.blame(TOO_GREAT, token);
                return type;
            }
            return result;
        }

        private int method(int type, int within) {
            int token = at;
            at++;
            int owner = shapes.methodOwner(type);
            int sig = p.sigOf(p.words.get(owner), text.words.get(token));
            if (sig < 0) {
                p.blame(UNKNOWN, token);
                return type;
            }
            int formals = p.sig(sig, S_FORMAL_COUNT);
            int vars = p.sig(sig, S_VAR_COUNT);
            int slots = p.sig(sig, S_SLOTS);
            int toldCount = kinds.get(at) == '[' ? text.lists.get(at) : 0;
            if (toldCount != formals || text.lists.get(token) != vars) {
                p.blame(UNEVEN, token);
                return type;
            }
            int ahead = shapes.keep(type);
            int types = p.kept;
            for (int i = 0; i < toldCount && p.fault == FINE; i++) {
                at = told.tell(at + 1, 1);
            }
            at += toldCount > 0 ? 1 : 0;
            told.lookAtBounds(types, p.kept);
            fitTypes(slots, owner, types, toldCount);
            parts(slots + formals, vars, owner, types, toldCount, within);
            p.addCode(DO_CALL, text.words.get(token), vars, types, toldCount, ahead);
            return p.fault == FINE
                ? resultType(slots + formals + vars, owner, types, toldCount, token) : type;
        }

        /** Looks whether the TYPES told for a METHOD's FORMALS meet their BOUNDS. */
        private void fitTypes(int slots, int owner, int types, int count) {
            int type = types;
            for (int i = 0; i < count && p.fault == FINE; i++) {
                int mark = shapes.top;
                shapes.fill(shapes.env, owner, types, count);
                int want = shapes.put(p.slot(slots + i, L_WORDS), shapes.env);
                int kind = want < 0 ? TOO_GREAT : shapes.meets(type, want);
                p.blame(kind, p.tokens.get(type - KEPT));
                shapes.top = mark;
                type = shapes.end(type);
            }
        }
    }

    /** Reads TYPES without PARAMS from the tape, for the program that there is. */
    private static final class Asked {
        private final Text text = new Text();
        private final Row opens = new Row(MOST_WITHIN + 2, MOST_SIGNS);
        private final Shapes shapes;
        private final Told told;
        private boolean deep;
        private int first;
        private int second;

        Asked(Shapes shapes, Told told) {
            this.shapes = shapes;
            this.told = told;
        }

        int read(Program p, int types) {
            deep = false;
            int at = 0;
            for (int i = 0; i < types; i++) {
                at = passType(at);
                if (at < 0 || text.kinds.get(at) != (i < types - 1 ? ';' : END)) {
                    return NONE;
                }
                at++;
            }
            if (deep) {
                return ILL_FORMED;
            }
            shapes.use(p, SCRATCH);
            told.use(p, text);
            p.fault = FINE;
            int kept = p.kept;
            at = 0;
            for (int i = 0; i < types && p.fault == FINE; i++) {
                int type = p.kept;
                first = i == 0 ? type : first;
                second = type;
                at = told.tell(at, 1) + 1;
                told.lookAtBounds(type, p.kept);
            }
            // nothing else is kept before these are answered
            p.kept = kept;
            return p.fault == FINE ? FINE : ILL_FORMED;
        }

        /** The token behind the TYPE that begins there, or NONE. */
        private int passType(int from) {
            int at = from;
            int within = 1;
            for (int i = 0; i < MOST_SIGNS && text.kinds.get(at) == WORD; i++) {
                at++;
                if (text.kinds.get(at) == '[') {
                    within++;
                    deep = deep || within > MOST_WITHIN;
                    opens.set(within, at);
                    text.lists.set(at, 0);
                }
                while (within > 1 && text.kinds.get(at) == ']') {
                    countOne(within);
                    within--;
                    at++;
                }
                if (within == 1) {
                    return at;
                }
                if (text.kinds.get(at) == ',') {
                    countOne(within);
                } else if (at != opens.get(within)) {
                    return NONE;
                }
                at++;
            }
            return NONE;
        }

        private void countOne(int within) {
            int open = opens.get(within);
            text.lists.set(open, text.lists.get(open) + 1);
        }
    }

    /** Runs code, with a row of its own for the calls that are open, so that none is nested. */
    private static final class Machine {
        private final Shapes shapes;
        private final Row stack = new Row(300, MOST_SIGNS);
        /** Of each open call where to go on, and where its VARS begin. */
        private final Row frames = new Row(2 * (MOST_CALLS + 1), 2 * (MOST_CALLS + 1));
        /** Of each open call, and the next one, what is put for PARAMS. */
        private final Row[] envs = new Row[MOST_CALLS + 2];
        /** A value is its TYPE and the places of its values here. */
        private final Row values = new Row(300, MOST_STEPS * (MOST_IN_LIST + 1));
        private Program p;
        private int pc;
        private int height;
        private int depth;
        private int left;
        private int steps;
        private int callCount;
        private int failedAt;
        private int outcome;
        private int result;

        Machine(Program p, Shapes shapes) {
            this.p = p;
            this.shapes = shapes;
            for (int i = 0; i < envs.length; i++) {
                envs[i] = new Row(2 * PARAMS, 2 * PARAMS);
            }
            outcome = RUNNING;
        }

        /** Nothing was run: no value, no fail. */
        void forget() {
            steps = 0;
            callCount = 0;
            outcome = RUNNING;
        }

        void start(Program program, int most) {
            forget();
            p = program;
            left = most;
            pc = p.mainCode;
            height = 0;
            depth = 0;
            values.clear();
        }

        void go() {
            for (int i = 0; i < FAR_BEYOND && outcome == RUNNING; i++) {
                int at = pc * C_CELLS;
                pc++;
                step(at);
            }
        }

        private void step(int at) {
            int what = p.code.get(at + C_WHAT);
            switch (p.code.get(at + C_DO)) {
                case DO_VAR:
                    push(stack.get(frames.get(2 * depth + 1) + what));
                    break;
                case DO_OPEN:
                    push(putType(what));
                    break;
                case DO_MAKE:
                    makeValue(p.code.get(at + C_COUNT));
                    break;
                case DO_FIELD:
                    if (take(1)) {
                        push(values.get(pop() + 1 + what));
                    }
                    break;
                case DO_CALL:
                    call(at, what);
                    break;
                case DO_CAST:
                    cast(what, p.code.get(at + C_POINT));
                    break;
                default:
                    leave();
                    break;
            }
        }

        private void push(int value) {
            stack.set(height, value);
            height++;
        }

        private int pop() {
            height--;
            return stack.get(height);
        }

        private boolean take(int count) {
            boolean enough = outcome == RUNNING && count <= left;
            if (outcome == RUNNING && !enough) {
                outcome = SPENT;
                steps += left;
                left = 0;
            } else if (enough) {
                steps += count;
                left -= count;
            }
            return enough;
        }

        private Row env(int call) {
            return call > 0 && call < envs.length ? envs[call] : envs[0];
        }

        private int putType(int told) {
            int type = shapes.put(told, env(depth));
            if (type < 0) {
                outcome = GREAT;
                return told;
            }
            if (type != told) {
                take(shapes.end(type) - type);
            }
            return type;
        }

        private void makeValue(int count) {
            if (!take(1)) {
                return;
            }
            int value = values.size;
            height -= count + 1;
            for (int i = 0; i <= count; i++) {
                values.add(stack.get(height + i));
            }
            push(value);
        }

        private void call(int at, int word) {
            int base = height - 1 - p.code.get(at + C_COUNT);
            int owner = values.get(stack.get(base));
            Row next = env(depth + 1);
            shapes.fill(next, owner, 0, 0);
            int told = p.code.get(at + C_TOLD);
            int toldCount = p.code.get(at + C_TOLD_COUNT);
            for (int i = 0; i < toldCount && outcome == RUNNING; i++) {
                shapes.bind(next, MOST_IN_LIST + i, putType(told));
                told = shapes.end(told);
            }
            if (!take(1)) {
                return;
            }
            if (depth >= MOST_CALLS) {
                outcome = DEEP;
                return;
            }
            int func = p.funcOf(p.words.get(owner), word);
            callCount++;
            depth++;
            frames.set(2 * depth, pc);
            frames.set(2 * depth + 1, base);
            pc = p.func(func, F_CODE);
        }

        private void cast(int told, int point) {
            int type = putType(told);
            if (outcome != RUNNING) {
                return;
            }
            int kind = shapes.meets(values.get(stack.get(height - 1)), type);
            if (kind == TOO_GREAT) {
                outcome = GREAT;
            } else if (take(1) && kind == UNMET) {
                outcome = FAILS;
                failedAt = point;
            }
        }

        private void leave() {
            int value = pop();
            if (depth == 0) {
                outcome = VALUE;
                result = value;
                return;
            }
            height = frames.get(2 * depth + 1);
            pc = frames.get(2 * depth);
            depth--;
            push(value);
        }
    }

    /** Makes the instances of a program. */
    private static final class Stock {
        private static final int HEAD = 3;
        private static final int CALL_CELLS = HEAD + MOST_IN_LIST + 1;
        private static final int METHOD_CELLS = HEAD + MOST_IN_LIST;

        private final Shapes shapes;
        private final Row types = new Row(20, MOST_INSTANCES + 1);
        /** Type, METHOD, how many TYPES, these; how many types were held against it. */
        private final Row calls = new Row(20 * CALL_CELLS, (MOST_INSTANCES + 1) * CALL_CELLS);
        /** Type, func, how many TYPES, these. */
        private final Row methods = new Row(20 * METHOD_CELLS, (MOST_INSTANCES + 1) * METHOD_CELLS);
        private final Row fresh = new Row(METHOD_CELLS, METHOD_CELLS);
        private Program p;
        private Row words;
        private int next;
        private boolean tried;
        private boolean complete;
        private boolean endless;

        Stock(Program p, Shapes shapes) {
            this.p = p;
            this.shapes = shapes;
            words = p.words;
        }

        void forget() {
            tried = false;
            complete = false;
        }

        int callCount() {
            return calls.size / CALL_CELLS;
        }

        int methodCount() {
            return methods.size / METHOD_CELLS;
        }

        void make(Program program) {
            p = program;
            words = p.words;
            types.clear();
            calls.clear();
            methods.clear();
            next = MADE_ZONE;
            tried = true;
            endless = false;
            goThrough(p.mainCode);
            // a round in which no METHOD is new was the last one
            int done = -1;
            for (int i = 0; i <= MOST_INSTANCES && done < methodCount() && !endless; i++) {
                done = methodCount();
                for (int c = 0; c < callCount(); c++) {
                    answer(c * CALL_CELLS);
                }
                for (int m = done; m < methodCount() && !endless; m++) {
                    goThrough(openMethod(m * METHOD_CELLS));
                }
            }
            complete = !endless;
        }

        /** The type among the instances that is the same, or NONE. */
        int find(int type) {
            for (int i = 0; i < types.size; i++) {
                if (shapes.same(type, types.get(i))) {
                    return types.get(i);
                }
            }
            return NONE;
        }

        /** Holds the types that are new for a CALL against it. */
        private void answer(int call) {
            int done = call + CALL_CELLS - 1;
            for (int t = calls.get(done); t < types.size && !endless; t++) {
                int type = types.get(t);
                int code = words.get(type);
                int kind = p.isStruct(code) ? shapes.meets(type, calls.get(call)) : UNMET;
                endless = endless || kind == TOO_GREAT;
                if (kind == FINE) {
                    addMethod(call, type, p.funcOf(code, calls.get(call + 1)));
                }
            }
            calls.set(done, types.size);
        }

        private void addMethod(int call, int type, int func) {
            begin(type, func, calls.get(call + 2));
            for (int i = 0; i < MOST_IN_LIST; i++) {
                fresh.set(HEAD + i, calls.get(call + HEAD + i));
            }
            if (!holds(methods, METHOD_CELLS)) {
                for (int i = 0; i < METHOD_CELLS; i++) {
                    methods.add(fresh.get(i));
                }
                countAll();
            }
        }

        /** Makes ready to put what a METHOD has for PARAMS, and tells where its code is. */
        private int openMethod(int method) {
            shapes.fill(shapes.env, methods.get(method), 0, 0);
            for (int i = 0; i < methods.get(method + 2); i++) {
                shapes.bind(shapes.env, MOST_IN_LIST + i, methods.get(method + HEAD + i));
            }
            return p.func(methods.get(method + 1), F_CODE);
        }

        private void begin(int type, int what, int count) {
            fresh.set(0, type);
            fresh.set(1, what);
            fresh.set(2, count);
            for (int i = 0; i < MOST_IN_LIST; i++) {
                fresh.set(HEAD + i, 0);
            }
        }

        /** Whether the fresh one stands in a row: TYPES told are one if their places are. */
        private boolean holds(Row row, int cells) {
            int count = cells > 0 ? row.size / cells : 0;
            for (int n = 0; n < count; n++) {
                int at = n * cells;
                boolean is = row.get(at + 1) == fresh.get(1) && shapes.same(row.get(at), fresh.get(0));
                for (int i = 2; is && i < METHOD_CELLS; i++) {
                    is = row.get(at + i) == fresh.get(i);
                }
                if (is) {
                    return true;
                }
            }
            return false;
        }

        private void countAll() {
            endless = endless || types.size + callCount() + methodCount() > MOST_INSTANCES;
        }

        private void goThrough(int code) {
            int most = p.code.size;
            for (int at = code * C_CELLS; at < most && !endless; at += C_CELLS) {
                switch (p.code.get(at + C_DO)) {
                    case DO_OPEN:
                    case DO_CAST:
                        addTypes(p.code.get(at + C_WHAT));
                        break;
                    case DO_CALL:
                        addCall(at);
                        break;
                    case DO_LEAVE:
                        return;
                    default:
                        break;
                }
            }
        }

        /** Adds a TYPE and those in it, and tells where it stands then. */
        private int addTypes(int told) {
            int mark = shapes.top;
            int type = shapes.put(told, shapes.env);
            shapes.top = mark;
            if (type < 0) {
                endless = true;
                return NONE;
            }
            // inner ones only where the outer one is new: else they are there
            int end = find(type) < 0 ? shapes.end(type) : type;
            for (int at = type; at < end && !endless; at++) {
                if (find(at) < 0) {
                    types.add(copy(at, shapes.end(at) - at));
                    countAll();
                }
            }
            return find(type);
        }

        private int copy(int type, int size) {
            int from = next;
            for (int i = 0; i < size; i++) {
                words.set(from + i, words.get(type + i));
            }
            next = from + size;
            return from;
        }

        private void addCall(int at) {
            int count = p.code.get(at + C_TOLD_COUNT);
            int told = p.code.get(at + C_TOLD);
            begin(0, p.code.get(at + C_WHAT), count);
            for (int i = 0; i < count && !endless; i++) {
                fresh.set(HEAD + i, addTypes(told));
                told = shapes.end(told);
            }
            int mark = shapes.top;
            int type = shapes.put(p.code.get(at + C_AHEAD), shapes.env);
            shapes.top = mark;
            if (type < 0 || endless) {
                endless = true;
                return;
            }
            fresh.set(0, type);
            if (!holds(calls, CALL_CELLS)) {
                fresh.set(0, copy(type, shapes.end(type) - type));
                for (int i = 0; i < METHOD_CELLS; i++) {
                    calls.add(fresh.get(i));
                }
                calls.add(0);
                countAll();
            }
        }
    }

    /** Writes types and values as signs. */
    private static final class Press {
        private final Row signs = new Row(300, MOST_OUT);
        private final Row open = new Row(100, 2 * MOST_OUT);
        private final Row openTypes = new Row(MOST_WORDS + 1, MOST_WORDS + 1);
        private Program p;

        Press(Program p) {
            this.p = p;
        }

        void begin(Program program) {
            p = program;
            signs.clear();
        }

        void putType(int type) {
            int depth = 0;
            openTypes.set(0, 1);
            for (int i = 0; i < MOST_WORDS && openTypes.get(0) > 0; i++) {
                int code = p.words.get(type + i);
                putWord(p.type(code, T_NAME));
                if (p.arities.get(code) > 0) {
                    depth++;
                    openTypes.set(depth, p.arities.get(code));
                    signs.add('[');
                    continue;
                }
                openTypes.set(depth, openTypes.get(depth) - 1);
                while (depth > 0 && openTypes.get(depth) == 0) {
                    signs.add(']');
                    depth--;
                    openTypes.set(depth, openTypes.get(depth) - 1);
                }
                if (depth > 0) {
                    signs.add(',');
                }
            }
        }

        private void putWord(int token) {
            int place = p.text.places.get(token);
            for (int i = 0; i < p.text.lengths.get(token); i++) {
                signs.add(p.text.signs.get(place + i));
            }
        }

        /** Each round writes a sign at least, so that as many rounds as there is room for are enough. */
        void putValue(Row values, int value) {
            int depth = 0;
            openValue(values, value, 0);
            for (int i = 0; i < MOST_OUT && depth >= 0 && signs.size < MOST_OUT; i++) {
                int outer = open.get(2 * depth);
                int next = open.get(2 * depth + 1);
                if (next == p.type(p.words.get(values.get(outer)), T_MEMBER_COUNT)) {
                    signs.add('}');
                    depth--;
                    continue;
                }
                if (next > 0) {
                    signs.add(',');
                }
                open.set(2 * depth + 1, next + 1);
                depth++;
                openValue(values, values.get(outer + 1 + next), depth);
            }
        }

        private void openValue(Row values, int value, int depth) {
            putType(values.get(value));
            signs.add('{');
            open.set(2 * depth, value);
            open.set(2 * depth + 1, 0);
        }
    }
}
