/**
 * Programs of modules with imports, functions and three kinds of let: their scopes, what each name
 * in them means, and new names that leave every meaning as it was.
 *
 * <p>Sets of scopes and of declarations are held as the bits of a long, since a text has at most 64
 * of the one and 60 of the other. All rows are made in the constructor and used again.
 */
public final class ScopeGraph {
    public static final int NONE = -1;
    public static final int NO_NAME = -2, REFUSED = -3, TOO_LONG = -4;

    private static final int MOST_BYTES = 4000;
    private static final int BYTES_FED = 20;
    private static final int MOST_SCOPES = 64;
    private static final int MOST_DECLARATIONS = 60;
    private static final int MOST_REFERENCES = 100;
    private static final int MOST_IMPORTS = 6;
    private static final int MOST_OPEN = 20;
    private static final int SET_BITS = 64;
    private static final int MOST_NAME_BYTES = 12;
    private static final int MOST_NUMBER_BYTES = 9;

    private static final int PROGRAM = 0, MODULE = 1, FUN = 2, LET = 3, REC = 4, PAR = 5, LONG = 6;

    private Tape tape = new Tape();
    private Tape text = new Tape();
    private Program program = new Program();
    private Program draft = new Program();
    private Meaning meaning = new Meaning();
    private Meaning trial = new Meaning();
    private final Reader reader = new Reader(draft);
    private final Resolver resolver = new Resolver(program, meaning);
    private int latestFault;

    public ScopeGraph() {
        latestFault = 0;
    }

    public int feed(int a, int b, int c, int d, int e) throws UnsupportedOperationException {
        if (tape.size > MOST_BYTES - BYTES_FED) {
            throw new UnsupportedOperationException("the tape would have more than 4000 bytes");
        }
        tape.addFour(a);
        tape.addFour(b);
        tape.addFour(c);
        tape.addFour(d);
        tape.addFour(e);
        return tape.size;
    }

    public void end(int n) throws IllegalArgumentException {
        if (n < 0 || n > tape.size) {
            throw new IllegalArgumentException("the tape has not so many bytes");
        }
        tape.size = n;
    }

    public int read() {
        latestFault = reader.parse(tape, draft);
        if (latestFault == 0) {
            swapTapes();
            Program former = program;
            program = draft;
            draft = former;
            meaning.compareNames(program);
            resolver.resolve(program, meaning);
        }
        tape.size = 0;
        return latestFault == 0 ? program.scopes : -1 - reader.place();
    }

    public int fault() {
        return latestFault;
    }

    public int count(int what) throws IndexOutOfBoundsException {
        switch (what) {
            case 0: return program.scopes;
            case 1: return program.declarations.size;
            case 2: return program.references.size;
            case 3: return program.importsInAll();
            case 4: return meaning.howManyMean(0, 0, program.references.size);
            case 5: return meaning.howManyMean(2, MOST_DECLARATIONS, program.references.size);
            case 6: return text.size;
            case 7: return tape.size;
            default: throw new IndexOutOfBoundsException("no such what");
        }
    }

    public int scope(int k, int what) throws IndexOutOfBoundsException {
        if (k < 0 || k >= program.scopes) {
            throw new IndexOutOfBoundsException("no such scope");
        }
        switch (what) {
            case 0: return program.parents[k];
            case 1: return program.kinds[k];
            case 2: return Long.bitCount(program.declared[k]);
            case 3: return program.referencesIn(k);
            case 4: return program.importsOf(k);
            default: throw new IndexOutOfBoundsException("no such what");
        }
    }

    public int declaration(int k, int what) throws IndexOutOfBoundsException {
        if (!program.declarations.has(k)) {
            throw new IndexOutOfBoundsException("no such declaration");
        }
        switch (what) {
            case 0: return program.declarations.scopes[k];
            case 1: return program.declarations.places[k];
            case 2: return program.owned[k];
            case 3: return Long.bitCount(meaning.friendsOf(k, program.references.size));
            case 4: return meaning.usersOf(1L << k, program.references.size);
            default: throw new IndexOutOfBoundsException("no such what");
        }
    }

    public int reference(int k, int what) throws IndexOutOfBoundsException {
        if (!program.references.has(k)) {
            throw new IndexOutOfBoundsException("no such reference");
        }
        switch (what) {
            case 0: return program.references.scopes[k];
            case 1: return program.references.places[k];
            case 2: return program.importers[k];
            case 3: return Long.bitCount(meaning.meanings[k]);
            case 4: return meaning.ups[k];
            case 5: return meaning.nears[k];
            default: throw new IndexOutOfBoundsException("no such what");
        }
    }

    public int meant(int k, int i) throws IndexOutOfBoundsException {
        if (!program.references.has(k)) {
            throw new IndexOutOfBoundsException("no such reference");
        }
        if (i < 0 || i >= Long.bitCount(meaning.meanings[k])) {
            throw new IndexOutOfBoundsException("the reference means fewer declarations");
        }
        long left = meaning.meanings[k];
        for (int passed = 0; passed < i; passed++) {
            left &= left - 1;
        }
        return lowest(left);
    }

    public boolean friends(int k, int j) throws IndexOutOfBoundsException {
        if (!program.declarations.has(k) || !program.declarations.has(j)) {
            throw new IndexOutOfBoundsException("no such declaration");
        }
        return (meaning.friendsOf(k, program.references.size) >>> j & 1) != 0;
    }

    public int rename(int k) throws IndexOutOfBoundsException {
        if (!program.declarations.has(k)) {
            throw new IndexOutOfBoundsException("no such declaration");
        }
        Tokens name = reader.tokens;
        if (!name.areJustOneName(tape)) {
            return NO_NAME;
        }
        int references = program.references.size;
        long group = meaning.friendsOf(k, references);
        trial.supposeName(program, meaning, group, name);
        resolver.resolve(program, trial);
        if (!trial.agreesWith(meaning, references)) {
            return REFUSED;
        }
        int places = Long.bitCount(group) + meaning.usersOf(group, references);
        int formerLength = program.declarations.lengthOf(k);
        if (text.size + places * (name.length - formerLength) > MOST_BYTES) {
            return TOO_LONG;
        }
        writeNewText(group, formerLength, name);
        swapTapes();
        tape.size = 0;
        Meaning former = meaning;
        meaning = trial;
        trial = former;
        return places;
    }

    public int letter(int i) throws IndexOutOfBoundsException {
        if (i < 0 || i >= text.size) {
            throw new IndexOutOfBoundsException("no such place");
        }
        return text.at(i);
    }

    private void swapTapes() {
        Tape former = text;
        text = tape;
        tape = former;
    }

    /** The name is in the tokens by now, so the tape is free to take the new text. */
    private void writeNewText(long group, int formerLength, Tokens name) {
        Marks declarations = program.declarations;
        Marks references = program.references;
        int declaration = 0;
        int reference = 0;
        int skippedTo = 0;
        tape.size = 0;
        for (int place = 0; place < text.size; place++) {
            boolean named = false;
            if (declarations.standsAt(declaration, place)) {
                named = (group >>> declaration & 1) != 0;
                declarations.move(declaration, tape.size, named, name);
                declaration++;
            } else if (references.standsAt(reference, place)) {
                named = (meaning.meanings[reference] & group) != 0;
                references.move(reference, tape.size, named, name);
                reference++;
            }
            if (named) {
                tape.addName(name.high, name.low);
                skippedTo = place + formerLength;
            } else if (place >= skippedTo) {
                tape.add(text.at(place));
            }
        }
    }

    /** The number of the lowest bit of a set that is not empty. */
    private static int lowest(long set) {
        return Long.bitCount((set & -set) - 1);
    }

    /** Byte i of a name that is held in two longs; 0 behind its end. */
    private static int nameByte(long high, long low, int i) {
        return (int) ((i < 6 ? high >>> (40 - 8 * i) : low >>> (88 - 8 * i)) & 255);
    }

    /** Some bytes, at most as many as a text may have. */
    private static final class Tape {
        private final byte[] bytes = new byte[MOST_BYTES];
        private int size;

        int at(int place) {
            return place >= 0 && place < size ? bytes[place] & 255 : NONE;
        }

        void add(int value) {
            if (size >= 0 && size < MOST_BYTES) {
                bytes[size] = (byte) value;
                size++;
            }
        }

        void addFour(int number) {
            add(number >>> 24);
            add(number >>> 16);
            add(number >>> 8);
            add(number);
        }

        void addName(long high, long low) {
            for (int i = 0; i < MOST_NAME_BYTES && nameByte(high, low, i) != 0; i++) {
                add(nameByte(high, low, i));
            }
        }
    }

    /**
     * The tokens of a tape, one at a time. A sign's kind is its byte, so the other kinds lie above
     * all bytes. The latest name is held in two longs of six bytes each, filled up with zeros
     * behind: two names are equal just if these are.
     */
    private static final class Tokens {
        private static final int MODULE_WORD = 256, IMPORT_WORD = 257, DEF_WORD = 258;
        private static final int FUN_WORD = 259, LET_WORD = 260, REC_WORD = 261, PAR_WORD = 262;
        private static final int IN_WORD = 263, NAME = 264, NUMBER = 265, END = 266, BAD = 267;

        private static final String WORDS = "module import def    fun    let    rec    par    in     ";
        private static final int WORD_COUNT = 8, WORD_WIDTH = 7;
        private static final String SIGNS = "{}()=+.,;";

        private int kind;
        private int start;
        private int length;
        private long high;
        private long low;

        void begin() {
            start = 0;
            length = 0;
        }

        void advance(Tape tape) {
            start = behindBlanks(tape, start + length);
            int first = tape.at(start);
            length = 1;
            if (first == NONE) {
                kind = END;
            } else if (beginsName(first)) {
                takeName(tape);
            } else if (isDigit(first)) {
                takeNumber(tape);
            } else {
                kind = SIGNS.indexOf((char) first) >= 0 ? first : BAD;
            }
        }

        boolean areJustOneName(Tape tape) {
            begin();
            advance(tape);
            return kind == NAME && start == 0 && length == tape.size;
        }

        private void takeName(Tape tape) {
            high = 0;
            low = 0;
            int i = 0;
            for (; i < MOST_BYTES && isInName(tape.at(start + i)); i++) {
                packByte(i, tape.at(start + i));
            }
            length = i;
            kind = length > MOST_NAME_BYTES ? BAD : wordOrName();
        }

        private void packByte(int i, int value) {
            if (i < 6) {
                high |= (long) value << (40 - 8 * i);
            } else if (i < MOST_NAME_BYTES) {
                low |= (long) value << (88 - 8 * i);
            }
        }

        private void takeNumber(Tape tape) {
            int i = 0;
            while (i < MOST_BYTES && isDigit(tape.at(start + i))) {
                i++;
            }
            length = i;
            kind = length > MOST_NUMBER_BYTES ? BAD : NUMBER;
        }

        private int wordOrName() {
            for (int word = 0; word < WORD_COUNT && length < WORD_WIDTH; word++) {
                if (isWord(word * WORD_WIDTH)) {
                    return MODULE_WORD + word;
                }
            }
            return NAME;
        }

        private boolean isWord(int from) {
            if (WORDS.charAt(from + length) != ' ') {
                return false;
            }
            for (int i = 0; i < length; i++) {
                if (WORDS.charAt(from + i) != nameByte(high, low, i)) {
                    return false;
                }
            }
            return true;
        }

        private static int behindBlanks(Tape tape, int from) {
            int place = from;
            while (place < MOST_BYTES && isBlank(tape.at(place))) {
                place++;
            }
            return place;
        }

        private static boolean isBlank(int value) {
            return value == 32 || value == 9 || value == 10 || value == 13;
        }

        private static boolean isDigit(int value) {
            return value >= '0' && value <= '9';
        }

        private static boolean beginsName(int value) {
            return value >= 'a' && value <= 'z' || value >= 'A' && value <= 'Z' || value == '_';
        }

        private static boolean isInName(int value) {
            return beginsName(value) || isDigit(value);
        }
    }

    /** Where names stand in the text: all its declarations, or all its references. */
    private static final class Marks {
        private final int[] scopes;
        private final int[] places;
        private final long[] highs;
        private final long[] lows;
        private int size;

        Marks(int most) {
            scopes = new int[most];
            places = new int[most];
            highs = new long[most];
            lows = new long[most];
        }

        boolean has(int k) {
            return k >= 0 && k < size;
        }

        int add(int scope, Tokens name) {
            if (size < 0 || size >= places.length) {
                return NONE;
            }
            scopes[size] = scope;
            places[size] = name.start;
            highs[size] = name.high;
            lows[size] = name.low;
            size++;
            return size - 1;
        }

        boolean standsAt(int k, int place) {
            return has(k) && places[k] == place;
        }

        void move(int k, int place, boolean named, Tokens name) {
            if (has(k)) {
                places[k] = place;
                highs[k] = named ? name.high : highs[k];
                lows[k] = named ? name.low : lows[k];
            }
        }

        int lengthOf(int k) {
            int length = 0;
            while (has(k) && length < MOST_NAME_BYTES && nameByte(highs[k], lows[k], length) != 0) {
                length++;
            }
            return length;
        }

        boolean isNamed(int k, long high, long low) {
            return has(k) && highs[k] == high && lows[k] == low;
        }

        /** Which of the marks bear a name, as a set: only for declarations, which are few enough. */
        long named(long high, long low) {
            long set = 0;
            for (int k = 0; k < size; k++) {
                if (highs[k] == high && lows[k] == low) {
                    set |= 1L << k;
                }
            }
            return set;
        }
    }

    /** The scopes of a text, with what stands in them. */
    private static final class Program {
        private final Marks declarations = new Marks(MOST_DECLARATIONS);
        private final Marks references = new Marks(MOST_REFERENCES);
        private final int[] parents = new int[MOST_SCOPES];
        private final int[] kinds = new int[MOST_SCOPES];
        private final long[] declared = new long[MOST_SCOPES];
        /** Sets of statements: a LONG scope's import is none, it is the reference before its own. */
        private final int[] imported = new int[MOST_SCOPES];
        /** Of each declaration the scope that it has; as long as a set has bits. */
        private final int[] owned = new int[SET_BITS];
        private final int[] importers = new int[MOST_REFERENCES];
        /** Of each reference the import statement that it is a part of. */
        private final int[] statementOf = new int[MOST_REFERENCES];
        private final int[] firsts = new int[MOST_IMPORTS];
        private final int[] lasts = new int[MOST_IMPORTS];
        private int scopes;
        private int statements;

        Program() {
            empty();
        }

        void empty() {
            scopes = 0;
            statements = 0;
            declarations.size = 0;
            references.size = 0;
            makeScope(PROGRAM, NONE);
        }

        int makeScope(int kind, int parent) {
            if (scopes < 0 || scopes >= MOST_SCOPES) {
                return NONE;
            }
            kinds[scopes] = kind;
            parents[scopes] = parent;
            declared[scopes] = 0;
            imported[scopes] = 0;
            scopes++;
            return scopes - 1;
        }

        int declare(int scope, Tokens name) {
            int made = declarations.add(scope, name);
            if (made >= 0 && scope >= 0 && scope < scopes) {
                owned[made] = NONE;
                declared[scope] |= 1L << made;
            }
            return made;
        }

        int refer(int scope, Tokens name) {
            int made = references.add(scope, name);
            if (made >= 0) {
                importers[made] = NONE;
                statementOf[made] = NONE;
            }
            return made;
        }

        /** The latest reference of the text is the last one of its LONG. */
        void importFrom(int first, int scope) {
            int last = references.size - 1;
            if (first < 0 || first > last || statements >= MOST_IMPORTS || scope < 0 || scope >= scopes) {
                return;
            }
            importers[last] = scope;
            imported[scope] |= 1 << statements;
            for (int r = first; r <= last; r++) {
                statementOf[r] = statements;
            }
            firsts[statements] = first;
            lasts[statements] = last;
            statements++;
        }

        int importsInAll() {
            int sum = 0;
            for (int r = 0; r < references.size; r++) {
                sum += importers[r] == NONE ? 0 : 1;
            }
            return sum;
        }

        int importsOf(int scope) {
            int sum = 0;
            for (int r = 0; r < references.size; r++) {
                sum += importers[r] == scope ? 1 : 0;
            }
            return sum;
        }

        int referencesIn(int scope) {
            int sum = 0;
            for (int r = 0; r < references.size; r++) {
                sum += references.scopes[r] == scope ? 1 : 0;
            }
            return sum;
        }

        /** The scopes that some declarations have, as a set. */
        long ownedBy(long some) {
            long left = some;
            long set = 0;
            for (int n = 0; n < SET_BITS && left != 0; n++) {
                int scope = owned[lowest(left)];
                set |= scope == NONE ? 0 : 1L << scope;
                left &= left - 1;
            }
            return set;
        }
    }

    /**
     * Makes a program of a tape, token by token, by a state and a stack of frames: lets nest in
     * their binds without any bracket, deeper than calls may.
     */
    private static final class Reader {
        private static final int BAD_BYTES = 1, MISPLACED = 2, TOO_DEEP = 3, TOO_MANY_NAMES = 4;
        private static final int TOO_MANY_SCOPES = 5;

        private static final int DECS = 0, MODULE_NAME = 1, IMPORT_NAME = 2, DEF_NAME = 3;
        private static final int FUN_NAME = 4, BIND_NAME = 5, LONG_NAME = 6, EQUALS = 7;
        private static final int DECS_OPEN = 8, EXP_OPEN = 9, ATOM = 10, BEHIND_LONG = 11;
        private static final int BEHIND_ATOM = 12;

        /** Frames of scopes are named as the scopes' kinds are; these are the others. */
        private static final int IMPORT_FRAME = 10, DEF_FRAME = 11, ROUND_FRAME = 12;
        private static final int BODY_FRAME = 13, NO_FRAME = 14;
        /** More than 20 brackets, 60 binds and a def can make. */
        private static final int MOST_FRAMES = 96;

        private final Tokens tokens = new Tokens();
        private final int[] frames = new int[MOST_FRAMES];
        private final int[] outers = new int[MOST_FRAMES];
        private final int[] inners = new int[MOST_FRAMES];
        private Program program;
        private int depth;
        private int open;
        private int here;
        private int state;
        private int longStart;

        Reader(Program first) {
            program = first;
        }

        /** The code of the first fault, or 0; the tokens then stand at it. */
        int parse(Tape tape, Program made) {
            program = made;
            program.empty();
            tokens.begin();
            depth = 0;
            open = 0;
            here = 0;
            state = DECS;
            for (int n = 0; n <= MOST_BYTES; n++) {
                tokens.advance(tape);
                int code = tokens.kind == Tokens.BAD ? BAD_BYTES : take(tokens.kind);
                if (code != 0 || tokens.kind == Tokens.END) {
                    return code;
                }
            }
            return MISPLACED;
        }

        int place() {
            return tokens.start;
        }

        private int take(int token) {
            switch (state) {
                case DECS: return takeDec(token);
                case EQUALS: return token == '=' ? turnTo(ATOM) : MISPLACED;
                case DECS_OPEN: return token == '{' ? openTo(DECS) : MISPLACED;
                case EXP_OPEN: return token == '{' ? openTo(ATOM) : MISPLACED;
                case ATOM: return takeAtom(token);
                case BEHIND_LONG: return token == '.' ? turnTo(LONG_NAME) : takeBehindAtom(token);
                case BEHIND_ATOM: return takeBehindAtom(token);
                default: return token == Tokens.NAME ? takeName() : MISPLACED;
            }
        }

        private int takeDec(int token) {
            switch (token) {
                case Tokens.MODULE_WORD: return turnTo(MODULE_NAME);
                case Tokens.IMPORT_WORD: return turnTo(IMPORT_NAME);
                case Tokens.DEF_WORD: return turnTo(DEF_NAME);
                case '}': return topFrame() == MODULE ? closeTo(DECS) : MISPLACED;
                case Tokens.END: return depth == 0 ? 0 : MISPLACED;
                default: return MISPLACED;
            }
        }

        private int takeAtom(int token) {
            switch (token) {
                case Tokens.NUMBER: return turnTo(BEHIND_ATOM);
                case Tokens.NAME: return takeFirstOfLong();
                case '(':
                    push(ROUND_FRAME, here);
                    return openTo(ATOM);
                case Tokens.FUN_WORD: return takeScopeWord(FUN, FUN_NAME);
                case Tokens.REC_WORD: return takeScopeWord(REC, BIND_NAME);
                case Tokens.PAR_WORD: return takeScopeWord(PAR, BIND_NAME);
                case Tokens.LET_WORD:
                    push(LET, here);
                    return turnTo(BIND_NAME);
                default: return MISPLACED;
            }
        }

        private int takeScopeWord(int kind, int next) {
            int made = program.makeScope(kind, here);
            if (made == NONE) {
                return TOO_MANY_SCOPES;
            }
            push(kind, made);
            return turnTo(next);
        }

        private int takeBehindAtom(int token) {
            int frame = topFrame();
            if (frame == IMPORT_FRAME) {
                return token == ';' ? takeImportEnd() : MISPLACED;
            }
            switch (token) {
                case '+': return turnTo(ATOM);
                case ';': return frame == DEF_FRAME ? popTo(DECS) : MISPLACED;
                case ')': return frame == ROUND_FRAME ? closeTo(BEHIND_ATOM) : MISPLACED;
                case '}':
                    return frame == FUN || frame == BODY_FRAME ? closeTo(BEHIND_ATOM) : MISPLACED;
                case ',': return hasBinds(frame) ? turnTo(BIND_NAME) : MISPLACED;
                case Tokens.IN_WORD: return hasBinds(frame) ? takeIn() : MISPLACED;
                default: return takeAtom(token);
            }
        }

        private static boolean hasBinds(int frame) {
            return frame == LET || frame == REC || frame == PAR;
        }

        private int takeName() {
            switch (state) {
                case MODULE_NAME: return takeModuleName();
                case IMPORT_NAME: return takeImportName();
                case DEF_NAME:
                    push(DEF_FRAME, here);
                    return declareIn(here, EQUALS);
                case FUN_NAME:
                    here = topInner();
                    return declareIn(here, EXP_OPEN);
                case BIND_NAME: return takeBindName();
                default: return takeNextOfLong();
            }
        }

        private int takeModuleName() {
            int declaration = program.declare(here, tokens);
            if (declaration == NONE) {
                return TOO_MANY_NAMES;
            }
            int made = program.makeScope(MODULE, here);
            if (made == NONE) {
                return TOO_MANY_SCOPES;
            }
            program.owned[declaration] = made;
            push(MODULE, made);
            here = made;
            return turnTo(DECS_OPEN);
        }

        private int takeImportName() {
            if (program.statements >= MOST_IMPORTS) {
                return TOO_MANY_NAMES;
            }
            push(IMPORT_FRAME, here);
            longStart = program.references.size;
            return takeFirstOfLong();
        }

        private int takeImportEnd() {
            program.importFrom(longStart, here);
            return popTo(DECS);
        }

        private int takeBindName() {
            int frame = topFrame();
            int inner = topInner();
            if (frame != LET) {
                here = frame == REC ? inner : topOuter();
                return declareIn(inner, EQUALS);
            }
            if (program.declarations.size >= MOST_DECLARATIONS) {
                return TOO_MANY_NAMES;
            }
            int made = program.makeScope(LET, inner);
            if (made == NONE) {
                return TOO_MANY_SCOPES;
            }
            here = inner;
            setTop(LET, made);
            return declareIn(made, EQUALS);
        }

        private int takeIn() {
            here = topInner();
            setTop(BODY_FRAME, here);
            return turnTo(EXP_OPEN);
        }

        private int takeFirstOfLong() {
            return program.refer(here, tokens) == NONE ? TOO_MANY_NAMES : turnTo(BEHIND_LONG);
        }

        private int takeNextOfLong() {
            int before = program.references.size - 1;
            if (before < 0 || before + 1 >= MOST_REFERENCES) {
                return TOO_MANY_NAMES;
            }
            int made = program.makeScope(LONG, NONE);
            if (made == NONE) {
                return TOO_MANY_SCOPES;
            }
            program.importers[before] = made;
            program.refer(made, tokens);
            return turnTo(BEHIND_LONG);
        }

        private int declareIn(int scope, int next) {
            return program.declare(scope, tokens) == NONE ? TOO_MANY_NAMES : turnTo(next);
        }

        private int turnTo(int next) {
            state = next;
            return 0;
        }

        private int openTo(int next) {
            if (open >= MOST_OPEN) {
                return TOO_DEEP;
            }
            open++;
            return turnTo(next);
        }

        private int closeTo(int next) {
            open--;
            return popTo(next);
        }

        private int popTo(int next) {
            here = topOuter();
            depth--;
            return turnTo(next);
        }

        private void push(int frame, int inner) {
            if (depth >= 0 && depth < MOST_FRAMES) {
                frames[depth] = frame;
                outers[depth] = here;
                inners[depth] = inner;
                depth++;
            }
        }

        private void setTop(int frame, int inner) {
            if (depth > 0) {
                frames[depth - 1] = frame;
                inners[depth - 1] = inner;
            }
        }

        private int topFrame() {
            return depth > 0 ? frames[depth - 1] : NO_FRAME;
        }

        private int topOuter() {
            return depth > 0 ? outers[depth - 1] : 0;
        }

        private int topInner() {
            return depth > 0 ? inners[depth - 1] : 0;
        }
    }

    /** What the references of a program mean. */
    private static final class Meaning {
        /** Of each reference the declarations of its name, wherever they stand. */
        private final long[] namesakes = new long[MOST_REFERENCES];
        private final long[] meanings = new long[MOST_REFERENCES];
        private final int[] ups = new int[MOST_REFERENCES];
        private final int[] nears = new int[MOST_REFERENCES];

        void compareNames(Program program) {
            Marks references = program.references;
            for (int r = 0; r < references.size; r++) {
                namesakes[r] = program.declarations.named(references.highs[r], references.lows[r]);
            }
        }

        /** The namesakes there would be if a group of friends and its users bore another name. */
        void supposeName(Program program, Meaning now, long group, Tokens name) {
            long bearers = program.declarations.named(name.high, name.low) | group;
            for (int r = 0; r < program.references.size; r++) {
                boolean bears = (now.meanings[r] & group) != 0
                        || program.references.isNamed(r, name.high, name.low);
                namesakes[r] = bears ? bearers : now.namesakes[r] & ~group;
            }
        }

        boolean agreesWith(Meaning other, int references) {
            for (int r = 0; r < references && r < MOST_REFERENCES; r++) {
                if (meanings[r] != other.meanings[r]) {
                    return false;
                }
            }
            return true;
        }

        int howManyMean(int least, int most, int references) {
            int sum = 0;
            for (int r = 0; r < references && r < MOST_REFERENCES; r++) {
                int size = Long.bitCount(meanings[r]);
                sum += size >= least && size <= most ? 1 : 0;
            }
            return sum;
        }

        int usersOf(long group, int references) {
            int sum = 0;
            for (int r = 0; r < references && r < MOST_REFERENCES; r++) {
                sum += (meanings[r] & group) != 0 ? 1 : 0;
            }
            return sum;
        }

        /** Each round but the last finds a friend more, so there are not more rounds than these. */
        long friendsOf(int declaration, int references) {
            long group = 1L << declaration;
            long before = 0;
            for (int round = 0; round <= MOST_DECLARATIONS && group != before; round++) {
                before = group;
                for (int r = 0; r < references && r < MOST_REFERENCES; r++) {
                    group |= (meanings[r] & group) != 0 ? meanings[r] : 0;
                }
            }
            return group;
        }
    }

    /**
     * Finds what references mean. Of the references SEEN only this matters: which import
     * statements have one of them, for such a statement brings nothing (its last reference is seen
     * itself, or a LONG scope of it looks through a seen one). So what a statement brings is found
     * once for each set of such BLOCKED statements, the larger sets first, as the smaller ones
     * look them up.
     */
    private static final class Resolver {
        private static final int SETS = 1 << MOST_IMPORTS;

        /** The scopes that statement i brings while others are blocked: at [blocked * 6 + i]. */
        private final long[] brought = new long[SETS * MOST_IMPORTS];
        private Program program;
        private Meaning meaning;
        private int levelFound;
        private int scopeFound;

        Resolver(Program firstProgram, Meaning firstMeaning) {
            program = firstProgram;
            meaning = firstMeaning;
        }

        /** Fills the meaning, whose namesakes are there, for the program. */
        void resolve(Program ofProgram, Meaning filled) {
            program = ofProgram;
            meaning = filled;
            for (int blocked = (1 << program.statements) - 1; blocked >= 0; blocked--) {
                followStatements(blocked);
            }
            long found = 0;
            for (int r = 0; r < program.references.size; r++) {
                int statement = program.statementOf[r];
                found = means(r, found, statement == NONE ? 0 : 1 << statement);
                keep(r, found);
            }
        }

        private void keep(int r, long found) {
            meaning.meanings[r] = found;
            meaning.ups[r] = found == 0 ? NONE : levelFound;
            boolean near = (meaning.namesakes[r] & program.declared[scopeFound]) != 0;
            meaning.nears[r] = found == 0 ? NONE : near ? 1 : 0;
        }

        private void followStatements(int blocked) {
            for (int i = 0; i < program.statements; i++) {
                if ((blocked >> i & 1) == 0) {
                    long found = 0;
                    for (int r = program.firsts[i]; r <= program.lasts[i]; r++) {
                        found = means(r, found, blocked | 1 << i);
                    }
                    brought[blocked * MOST_IMPORTS + i] = program.ownedBy(found);
                }
            }
        }

        /** The second argument is what the reference before means: a LONG scope imports that. */
        private long means(int r, long before, int blocked) {
            long names = meaning.namesakes[r];
            int scope = program.references.scopes[r];
            levelFound = 0;
            scopeFound = scope;
            if (program.kinds[scope] == LONG) {
                return local(names, program.ownedBy(before), blocked);
            }
            for (int level = 0; level < MOST_SCOPES && scope >= 0; level++) {
                long found = local(names, 1L << scope, blocked);
                if (found != 0) {
                    levelFound = level;
                    scopeFound = scope;
                    return found;
                }
                scope = program.parents[scope];
            }
            return 0;
        }

        /**
         * What is LOCAL in some scopes. S may have all scopes that were looked into, not only those
         * on the way to one: to come to a scope once more finds nothing new. Nor need it have the
         * scopes below: had they anything to find, what is above would not be asked for.
         */
        private long local(long names, long scopes, int blocked) {
            long passed = 0;
            long waiting = scopes;
            long found = 0;
            for (int n = 0; n < MOST_SCOPES && names != 0 && waiting != 0; n++) {
                int scope = lowest(waiting);
                passed |= 1L << scope;
                long declared = names & program.declared[scope];
                found |= declared;
                waiting |= declared != 0 ? 0 : importedBy(scope, blocked);
                waiting &= ~passed;
            }
            return found;
        }

        private long importedBy(int scope, int blocked) {
            int open = program.imported[scope] & ~blocked;
            long set = 0;
            for (int i = 0; i < MOST_IMPORTS && open >> i != 0; i++) {
                set |= (open >> i & 1) != 0 ? brought[blocked * MOST_IMPORTS + i] : 0;
            }
            return set;
        }
    }
}
