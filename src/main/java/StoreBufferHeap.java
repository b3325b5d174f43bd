import java.util.Arrays;

/**
 * A collector that works beside its mutators, over a memory that every thread writes to through
 * a buffer of its own; and small trials of such a memory. The document's words in capitals are
 * used here in the same sense.
 */
public final class StoreBufferHeap {

    /** There is none. */
    public static final int NONE = -1;

    /** Told where NONE means something else already. */
    private static final int NO_SUCH = -2;
    private static final int TOLD_NIL = -2;

    /** A REFERENCE is SERIAL * 8 + SLOT in one number, so that it fits a CELL. */
    private static final int NIL = -1;
    private static final int SERIAL_SHIFT = 3;
    private static final int SLOT_MASK = 7;

    private static final int MOST_THREADS = 4;
    private static final int MOST_MUTATORS = 3;
    private static final int MOST_WRITES = 4;
    private static final int MOST_SLOTS = 8;
    private static final int MOST_FIELDS = 3;
    private static final int REGISTERS = 4;
    private static final int KEPT_SEEN = 32;
    private static final int MOST_BYTES = 400;
    private static final int BYTES_OF_A_FEED = 20;
    private static final int MOST_LINES = 20;
    private static final int IMAGES = 3;
    private static final int MOST_FAIR = 200;
    private static final int MOST_ROW = 3;
    private static final int MOST_ROWS = 8 * 8 * 8;
    private static final int COMMITS_FROM = 8;

    /** CELLS lie in one row: FIELDS first, then PHASE, MARK and COLOUR, then FLAGS. */
    private static final int PHASE_CELL = MOST_SLOTS * MOST_FIELDS;
    private static final int MARK_CELL = PHASE_CELL + 1;
    private static final int COLOUR_CELL = PHASE_CELL + 2;
    private static final int FLAG_CELLS = PHASE_CELL + 3;
    private static final int CELLS = FLAG_CELLS + MOST_SLOTS;

    private static final int SORT_FLAG = 0;
    private static final int SORT_FIELD_SLOT = 1;
    private static final int SORT_FIELD_SERIAL = 2;
    private static final int SORT_PHASE = 3;
    private static final int SORT_COLOUR = 5;

    private static final int PHASE_IDLE = 0;
    private static final int PHASE_INIT = 1;
    private static final int PHASE_MARK = 2;
    private static final int PHASE_SWEEP = 3;

    private static final int LEFT_DELETION = 1;
    private static final int LEFT_INSERTION = 2;
    private static final int LEFT_FENCES = 4;
    private static final int LEFT_ALL = 7;

    private static final int ASKED_NOTHING = 0;
    private static final int ASKED_PLAIN = 1;
    private static final int ASKED_ROOTS = 2;
    private static final int ASKED_WORK = 3;

    private static final int FREE = 0;
    private static final int WHITE = 1;
    private static final int GREY = 2;
    private static final int BLACK = 3;

    private static final int FAULT_TEXT = 1;
    private static final int FAULT_NUMBER = 2;
    private static final int FAULT_TOO_MANY = 3;

    private static final int NEW = 0;
    private static final int DROP = 1;
    private static final int SEE = 2;
    private static final int COPY = 3;
    private static final int LOAD = 4;
    private static final int STORE = 5;
    private static final int GO = 6;
    private static final int PARTY = 7;
    private static final int PUT = 8;
    private static final int GET = 9;
    private static final int SWAP = 10;
    private static final int FENCE = 11;

    private final Tape tape = new Tape();
    private final Reader reader = new Reader(tape);
    private final Heap heap = new Heap();
    private final Search search = new Search();
    private final Explorer explorer = new Explorer();
    private final Image[] images = new Image[IMAGES];
    private Trial trial;

    public StoreBufferHeap() {
        trial = null;
    }

    public boolean heap(int mutators, int buffer, int slots, int fields) {
        boolean fits = within(mutators, 1, MOST_MUTATORS) && within(buffer, 1, MOST_WRITES)
            && within(slots, 1, MOST_SLOTS) && within(fields, 1, MOST_FIELDS);
        if (!fits) {
            return false;
        }
        heap.begin(mutators, buffer, slots, fields);
        search.forget();
        return true;
    }

    public boolean leave(int bits) {
        if (!within(bits, 0, LEFT_ALL)) {
            return false;
        }
        heap.left = bits;
        search.forget();
        return true;
    }

    public int feed(int a, int b, int c, int d, int e) {
        if (tape.size + BYTES_OF_A_FEED > MOST_BYTES) {
            return NONE;
        }
        tape.append(a);
        tape.append(b);
        tape.append(c);
        tape.append(d);
        tape.append(e);
        return tape.size;
    }

    public int end(int n) {
        if (!within(n, 0, tape.size)) {
            return NONE;
        }
        tape.size = n;
        return n;
    }

    public int script(int mutator) {
        tape.clearFault();
        if (!isMutator(mutator) || !heap.mutators[mutator - 1].isBetween()) {
            tape.size = 0;
            return NO_SUCH;
        }
        int[] lines = reader.readScript(heap.fieldCount);
        tape.size = 0;
        if (tape.fault != 0) {
            return NONE;
        }
        heap.mutators[mutator - 1].take(lines);
        search.forget();
        return heap.mutators[mutator - 1].lineCount();
    }

    public int fault(int what) {
        if (what == 0) {
            return tape.fault;
        }
        return what == 1 ? tape.place : NONE;
    }

    public boolean does(int entry) {
        search.forget();
        return heap.enter(entry);
    }

    public int run() {
        int done = 0;
        for (int i = 0; i < tape.size && i < MOST_BYTES; i++) {
            if (heap.enter(entryOf(tape.bytes[i]))) {
                done++;
            }
        }
        tape.size = 0;
        search.forget();
        return done;
    }

    public int fair(int n) {
        if (!within(n, 0, MOST_FAIR)) {
            return NONE;
        }
        int done = 0;
        for (int i = 0; i < n; i++) {
            done += enterAll(0) + enterAll(COMMITS_FROM);
        }
        search.forget();
        return done;
    }

    public int root(int mutator, int register, boolean serial) {
        if (!isMutator(mutator) || !within(register, 0, REGISTERS - 1)) {
            return NONE;
        }
        return told(heap.mutators[mutator - 1].registers[register], serial);
    }

    public int cell(int sort, int slot, int field) {
        int cell = cellOf(sort, slot, field);
        return cell == NONE ? NONE : toldOf(sort, heap.memory[cell]);
    }

    public int reads(int thread, int sort, int slot, int field) {
        int cell = cellOf(sort, slot, field);
        if (cell == NONE || !isThread(thread)) {
            return NONE;
        }
        return toldOf(sort, heap.look(thread, cell));
    }

    public int waits(int thread) {
        return isThread(thread) ? heap.strands[thread].waiting : NONE;
    }

    public int write(int thread, int k, int what) {
        if (!isThread(thread) || !within(k, 0, heap.strands[thread].waiting - 1)) {
            return NONE;
        }
        int cell = heap.strands[thread].cells[k];
        int value = heap.strands[thread].values[k];
        boolean ofField = cell < PHASE_CELL;
        switch (what) {
            case 0:
                return ofField ? SORT_FIELD_SLOT : SORT_PHASE + cell - PHASE_CELL;
            case 1:
                return ofField ? cell / MOST_FIELDS : 0;
            case 2:
                return ofField ? cell % MOST_FIELDS : 0;
            case 3:
                return ofField ? told(value, false) : value;
            default:
                return NONE;
        }
    }

    public int work(int thread) {
        return isThread(thread) ? heap.strands[thread].work : NONE;
    }

    public int about(int thread, int what) {
        if (!isThread(thread)) {
            return NONE;
        }
        switch (what) {
            case 0:
                return thread == 0 ? heap.collector.rounds : heap.mutators[thread - 1].line;
            case 1:
                return thread != 0 && heap.mutators[thread - 1].isBetween() ? 1 : 0;
            case 2:
                return thread == 0 ? heap.unanswered() : heap.isAsked(thread) ? 1 : 0;
            case 3:
                return search.isBlocked(heap, thread) ? 1 : 0;
            case 4:
                return heap.strands[thread].steps;
            default:
                return NONE;
        }
    }

    public int colour(int slot) {
        return isSlot(slot) ? heap.shade(slot) : NONE;
    }

    public int serial(int slot) {
        return isSlot(slot) ? heap.serials[slot] : NONE;
    }

    public int reached() {
        return Heap.reachedOf(heap.reach());
    }

    public int lost() {
        return Heap.lostOf(heap.reach());
    }

    public int harm() {
        return heap.firstHarm();
    }

    public int seen(int mutator, int k) {
        return isMutator(mutator) ? heap.mutators[mutator - 1].seenAt(k) : NO_SUCH;
    }

    public int worst(int n, int what) {
        if (!within(n, 0, MOST_ROW) || !within(what, 0, n)) {
            return NONE;
        }
        search.find(heap, n);
        return what == 0 ? search.most : search.best[what - 1];
    }

    public int trial() {
        tape.clearFault();
        Trial told = reader.readTrial();
        tape.size = 0;
        if (told == null) {
            return NONE;
        }
        trial = told;
        return told.parties;
    }

    public int states(boolean strict) {
        if (trial == null) {
            return 0;
        }
        explorer.learn(trial, strict);
        return strict ? trial.strictStates : trial.allStates;
    }

    public int outcomes(int sort) {
        if (trial == null || !within(sort, 0, 2)) {
            return NONE;
        }
        learnFor(sort);
        return trial.size(sort);
    }

    public int outcome(int sort, int k) {
        if (trial == null || !within(sort, 0, 2) || k < 0) {
            return NONE;
        }
        learnFor(sort);
        return trial.at(sort, k);
    }

    public int count(int what) {
        switch (what) {
            case 0:
                return heap.mutatorCount;
            case 1:
                return heap.bufferSize;
            case 2:
                return heap.slotCount;
            case 3:
                return heap.fieldCount;
            case 4:
                return heap.made;
            case 5:
                return heap.freed;
            case 6:
                return heap.stray;
            case 7:
                return Integer.bitCount(heap.free);
            case 8:
                return heap.left;
            default:
                return within(what, 11, 10 + heap.mutatorCount)
                    ? heap.mutators[what - 11].seenCount : NO_SUCH;
        }
    }

    public boolean image(int k) {
        if (!within(k, 0, IMAGES - 1)) {
            return false;
        }
        if (images[k] == null) {
            images[k] = new Image();
        }
        images[k].heap.copyFrom(heap);
        images[k].tape.copyFrom(tape);
        images[k].trial = trial;
        return true;
    }

    public boolean again(int k) {
        if (!within(k, 0, IMAGES - 1) || images[k] == null) {
            return false;
        }
        heap.copyFrom(images[k].heap);
        tape.copyFrom(images[k].tape);
        trial = images[k].trial;
        search.forget();
        return true;
    }

    private static boolean within(int number, int least, int most) {
        return number >= least && number <= most;
    }

    private boolean isThread(int thread) {
        return within(thread, 0, heap.mutatorCount);
    }

    private boolean isMutator(int mutator) {
        return within(mutator, 1, heap.mutatorCount);
    }

    private boolean isSlot(int slot) {
        return within(slot, 0, heap.slotCount - 1);
    }

    private static int entryOf(int sign) {
        if (within(sign, '0', '3')) {
            return sign - '0';
        }
        return within(sign, 'a', 'd') ? COMMITS_FROM + sign - 'a' : NONE;
    }

    private int enterAll(int first) {
        int done = 0;
        for (int t = 0; t <= heap.mutatorCount; t++) {
            if (heap.enter(first + t)) {
                done++;
            }
        }
        return done;
    }

    private int cellOf(int sort, int slot, int field) {
        if (within(sort, SORT_PHASE, SORT_COLOUR)) {
            return PHASE_CELL + sort - SORT_PHASE;
        }
        if (!within(sort, SORT_FLAG, SORT_FIELD_SERIAL) || !isSlot(slot)) {
            return NONE;
        }
        if (sort == SORT_FLAG) {
            return FLAG_CELLS + slot;
        }
        return within(field, 0, heap.fieldCount - 1) ? slot * MOST_FIELDS + field : NONE;
    }

    private static int toldOf(int sort, int value) {
        boolean ofField = sort == SORT_FIELD_SLOT || sort == SORT_FIELD_SERIAL;
        return ofField ? told(value, sort == SORT_FIELD_SERIAL) : value;
    }

    private static int told(int reference, boolean serial) {
        if (reference < 0) {
            return TOLD_NIL;
        }
        return serial ? reference >> SERIAL_SHIFT : reference & SLOT_MASK;
    }

    private void learnFor(int sort) {
        if (sort != Trial.STRICT) {
            explorer.learn(trial, false);
        }
        if (sort != Trial.ALL) {
            explorer.learn(trial, true);
        }
    }

    /** The bytes that were fed, and the FAULT of the text that was taken last. */
    static final class Tape {
        final int[] bytes = new int[MOST_BYTES];
        int size;
        int fault;
        int place = NONE;

        void append(int four) {
            for (int shift = 24; shift >= 0 && size < MOST_BYTES; shift -= 8) {
                bytes[size] = (four >>> shift) & 255;
                size++;
            }
        }

        void clearFault() {
            fault = 0;
            place = NONE;
        }

        void copyFrom(Tape other) {
            System.arraycopy(other.bytes, 0, bytes, 0, MOST_BYTES);
            size = other.size;
            fault = other.fault;
            place = other.place;
        }
    }

    /** Reads the tape as a SCRIPT or as a TRIAL. */
    static final class Reader {
        private static final int AT_END = 0;
        private static final int AT_WORD = 1;
        private static final int AT_NUMBER = 2;
        private static final int AT_SEMICOLON = 3;
        private static final int AT_NOTHING = 4;

        private final int[] arguments = new int[3];
        private final int[] lines = new int[MOST_LINES * 4];
        private final Tape tape;
        private int fieldCount;
        private int token;
        private int first;
        private int next;
        private int number;

        Reader(Tape tape) {
            this.tape = tape;
        }

        /** The LINES, four numbers each; what they are is free if the tape has a FAULT then. */
        int[] readScript(int fields) {
            open(fields);
            int count = 0;
            for (int i = 0; i < MOST_BYTES && token != AT_END && tape.fault != FAULT_TEXT; i++) {
                int start = first;
                int verb = scriptVerb();
                if (count == MOST_LINES) {
                    blame(FAULT_TOO_MANY, start);
                }
                if (readRest(verb) && count < MOST_LINES) {
                    lines[count * 4] = verb;
                    System.arraycopy(arguments, 0, lines, count * 4 + 1, 3);
                    count++;
                }
            }
            return Arrays.copyOf(lines, count * 4);
        }

        /** The TRIAL, or null with a FAULT. */
        Trial readTrial() {
            open(0);
            Trial told = new Trial();
            if (!isWord("party")) {
                blameText();
            }
            for (int i = 0; i < MOST_BYTES && token != AT_END && tape.fault != FAULT_TEXT; i++) {
                int start = first;
                int verb = trialVerb();
                if (verb != NONE && !told.hasRoomFor(verb)) {
                    blame(FAULT_TOO_MANY, start);
                }
                if (readRest(verb) && tape.fault == 0) {
                    told.add(verb, arguments);
                }
            }
            return tape.fault == 0 ? told : null;
        }

        private void open(int fields) {
            fieldCount = fields;
            next = 0;
            advance();
        }

        /** A FAULT of the text itself goes before all others, wherever they are. */
        private void blameText() {
            tape.fault = FAULT_TEXT;
            tape.place = first;
        }

        private void blame(int fault, int place) {
            if (tape.fault == 0) {
                tape.fault = fault;
                tape.place = place;
            }
        }

        private boolean readRest(int verb) {
            if (verb == NONE) {
                blameText();
                return false;
            }
            advance();
            String shape = shapeOf(verb);
            for (int i = 0; i < 3; i++) {
                arguments[i] = 0;
                if (i < shape.length() && !readNumber(i, mostOf(shape.charAt(i)))) {
                    return false;
                }
            }
            if (token != AT_SEMICOLON) {
                blameText();
                return false;
            }
            advance();
            return true;
        }

        private boolean readNumber(int i, int most) {
            if (token != AT_NUMBER) {
                blameText();
                return false;
            }
            if (number > most) {
                blame(FAULT_NUMBER, first);
            }
            arguments[i] = number;
            advance();
            return true;
        }

        private int scriptVerb() {
            if (isWord("new")) {
                return NEW;
            }
            if (isWord("drop")) {
                return DROP;
            }
            if (isWord("see")) {
                return SEE;
            }
            if (isWord("copy")) {
                return COPY;
            }
            if (isWord("load")) {
                return LOAD;
            }
            if (isWord("store")) {
                return STORE;
            }
            return isWord("go") ? GO : NONE;
        }

        private int trialVerb() {
            if (isWord("party")) {
                return PARTY;
            }
            if (isWord("put")) {
                return PUT;
            }
            if (isWord("get")) {
                return GET;
            }
            if (isWord("swap")) {
                return SWAP;
            }
            return isWord("fence") ? FENCE : NONE;
        }

        /** A letter for each NUMBER: register, field, line; cell, value, party's register. */
        private static String shapeOf(int verb) {
            switch (verb) {
                case NEW:
                case DROP:
                case SEE:
                    return "r";
                case COPY:
                    return "rr";
                case LOAD:
                    return "rrf";
                case STORE:
                    return "rfr";
                case GO:
                    return "l";
                case PUT:
                    return "cv";
                case GET:
                    return "pc";
                case SWAP:
                    return "cvp";
                default:
                    return "";
            }
        }

        private int mostOf(char kind) {
            switch (kind) {
                case 'r':
                    return REGISTERS - 1;
                case 'f':
                    return fieldCount - 1;
                case 'l':
                    return MOST_LINES;
                case 'c':
                    return Trial.CELLS_OF_A_TRIAL - 1;
                case 'v':
                    return Trial.MOST_VALUE;
                default:
                    return Trial.REGISTERS_OF_A_PARTY - 1;
            }
        }

        private boolean isWord(String word) {
            if (token != AT_WORD || next - first != word.length()) {
                return false;
            }
            for (int i = 0; i < word.length(); i++) {
                if (byteAt(first + i) != word.charAt(i)) {
                    return false;
                }
            }
            return true;
        }

        private void advance() {
            skipBlanks();
            first = next;
            if (first >= tape.size) {
                token = AT_END;
            } else if (isLetter(byteAt(first))) {
                token = AT_WORD;
                skipLetters();
            } else if (isDigit(byteAt(first))) {
                takeDigits();
            } else {
                token = byteAt(first) == ';' ? AT_SEMICOLON : AT_NOTHING;
                next = first + 1;
            }
        }

        private void skipBlanks() {
            while (next < tape.size && (byteAt(next) == ' ' || byteAt(next) == '\n')) {
                next++;
            }
        }

        private void skipLetters() {
            while (next < tape.size && isLetter(byteAt(next))) {
                next++;
            }
        }

        private void takeDigits() {
            number = 0;
            while (next < tape.size && isDigit(byteAt(next))) {
                number = number * 10 + byteAt(next) - '0';
                next++;
            }
            token = next - first <= 2 ? AT_NUMBER : AT_NOTHING;
        }

        private int byteAt(int place) {
            return within(place, 0, MOST_BYTES - 1) ? tape.bytes[place] : NONE;
        }

        private static boolean isLetter(int sign) {
            return within(sign, 'a', 'z');
        }

        private static boolean isDigit(int sign) {
            return within(sign, '0', '9');
        }
    }

    /** What every THREAD has: its BUFFER, its WORK, and how far it is with what it marks. */
    static final class Strand {
        static final int MARKS_NOTHING = 0;
        static final int MARK_READS_FLAG = 1;
        static final int MARK_READS_PHASE = 2;
        static final int MARK_EXCHANGES = 3;

        final int[] cells = new int[MOST_WRITES];
        final int[] values = new int[MOST_WRITES];
        int waiting;
        int work;
        int steps;
        int marking;
        int marked = NIL;
        int sense;

        void begin() {
            waiting = 0;
            work = 0;
            steps = 0;
            marking = MARKS_NOTHING;
            marked = NIL;
            sense = 0;
        }

        void copyFrom(Strand other) {
            System.arraycopy(other.cells, 0, cells, 0, MOST_WRITES);
            System.arraycopy(other.values, 0, values, 0, MOST_WRITES);
            waiting = other.waiting;
            work = other.work;
            steps = other.steps;
            marking = other.marking;
            marked = other.marked;
            sense = other.sense;
        }
    }

    /** MEMORY, the THREADS, and what all of them do alike. */
    static final class Heap {
        int mutatorCount;
        int bufferSize;
        int slotCount;
        int fieldCount;
        int left;
        int free;
        int made;
        int freed;
        int stray;
        final int[] memory = new int[CELLS];
        final int[] serials = new int[MOST_SLOTS];
        final Strand[] strands = new Strand[MOST_THREADS];
        final Mutator[] mutators = new Mutator[MOST_MUTATORS];
        final Collector collector = new Collector();

        Heap() {
            for (int t = 0; t < MOST_THREADS; t++) {
                strands[t] = new Strand();
            }
            for (int m = 0; m < MOST_MUTATORS; m++) {
                mutators[m] = new Mutator(m + 1);
            }
            begin(1, 1, 1, 1);
        }

        void begin(int mutatorsNow, int buffer, int slots, int fields) {
            mutatorCount = mutatorsNow;
            bufferSize = buffer;
            slotCount = slots;
            fieldCount = fields;
            left = 0;
            free = (1 << slots) - 1;
            made = 0;
            freed = 0;
            stray = 0;
            Arrays.fill(memory, 0, PHASE_CELL, NIL);
            Arrays.fill(memory, PHASE_CELL, CELLS, 0);
            Arrays.fill(serials, NONE);
            for (int t = 0; t < MOST_THREADS; t++) {
                strands[t].begin();
            }
            for (int m = 0; m < MOST_MUTATORS; m++) {
                mutators[m].begin();
            }
            collector.begin();
        }

        void copyFrom(Heap other) {
            mutatorCount = other.mutatorCount;
            bufferSize = other.bufferSize;
            slotCount = other.slotCount;
            fieldCount = other.fieldCount;
            left = other.left;
            free = other.free;
            made = other.made;
            freed = other.freed;
            stray = other.stray;
            System.arraycopy(other.memory, 0, memory, 0, CELLS);
            System.arraycopy(other.serials, 0, serials, 0, MOST_SLOTS);
            for (int t = 0; t < MOST_THREADS; t++) {
                strands[t].copyFrom(other.strands[t]);
            }
            for (int m = 0; m < MOST_MUTATORS; m++) {
                mutators[m].copyFrom(other.mutators[m]);
            }
            collector.copyFrom(other.collector);
        }

        boolean enter(int entry) {
            if (within(entry, COMMITS_FROM, COMMITS_FROM + mutatorCount)) {
                return commit(strands[entry - COMMITS_FROM]);
            }
            if (!within(entry, 0, mutatorCount)) {
                return false;
            }
            boolean done = entry == 0 ? collector.step(this) : mutators[entry - 1].step(this);
            if (done) {
                strands[entry].steps++;
            }
            return done;
        }

        private boolean commit(Strand strand) {
            if (strand.waiting == 0) {
                return false;
            }
            memory[strand.cells[0]] = strand.values[0];
            strand.waiting--;
            for (int i = 0; i < strand.waiting; i++) {
                strand.cells[i] = strand.cells[i + 1];
                strand.values[i] = strand.values[i + 1];
            }
            return true;
        }

        /** A CELL as a THREAD READS it. */
        int look(int thread, int cell) {
            Strand strand = strands[thread];
            for (int i = strand.waiting - 1; i >= 0; i--) {
                if (strand.cells[i] == cell) {
                    return strand.values[i];
                }
            }
            return memory[cell];
        }

        /** A THREAD WRITES a CELL; false: its BUFFER is full. */
        boolean enqueue(int thread, int cell, int value) {
            Strand strand = strands[thread];
            if (strand.waiting >= bufferSize || strand.waiting >= MOST_WRITES) {
                return false;
            }
            strand.cells[strand.waiting] = cell;
            strand.values[strand.waiting] = value;
            strand.waiting++;
            return true;
        }

        boolean passesFence(int thread) {
            return (left & LEFT_FENCES) != 0 || strands[thread].waiting == 0;
        }

        /** The first STEP of what is TO MARK; it never is BLOCKED. */
        boolean beginMark(int thread, int reference) {
            strands[thread].marked = reference;
            strands[thread].marking = Strand.MARK_READS_FLAG;
            return goOnMarking(thread);
        }

        boolean goOnMarking(int thread) {
            Strand strand = strands[thread];
            int slot = strand.marked & SLOT_MASK;
            int wanted = Strand.MARKS_NOTHING;
            if (strand.marking == Strand.MARK_READS_FLAG) {
                strand.sense = look(thread, MARK_CELL);
                if (look(thread, FLAG_CELLS + slot) != strand.sense) {
                    wanted = Strand.MARK_READS_PHASE;
                }
            } else if (strand.marking == Strand.MARK_READS_PHASE) {
                if (look(thread, PHASE_CELL) != PHASE_IDLE) {
                    wanted = Strand.MARK_EXCHANGES;
                }
            } else if (strand.waiting != 0) {
                return false;
            } else if (memory[FLAG_CELLS + slot] != strand.sense) {
                memory[FLAG_CELLS + slot] = strand.sense;
                strand.work |= 1 << slot;
            }
            strand.marking = wanted;
            if (wanted == Strand.MARKS_NOTHING) {
                strand.marked = NIL;
            }
            return true;
        }

        boolean isMarking(int thread) {
            return strands[thread].marking != Strand.MARKS_NOTHING;
        }

        void handOverWork(int thread) {
            strands[0].work |= strands[thread].work;
            strands[thread].work = 0;
        }

        void askAll(int what) {
            for (int m = 0; m < mutatorCount; m++) {
                mutators[m].asked = what;
            }
        }

        boolean isAsked(int mutator) {
            return mutators[mutator - 1].asked != ASKED_NOTHING;
        }

        int unanswered() {
            int number = 0;
            for (int m = 1; m <= mutatorCount; m++) {
                if (isAsked(m)) {
                    number++;
                }
            }
            return number;
        }

        /** A new OBJECT in the least free SLOT, or NIL if none is free. */
        int makeObject(int thread) {
            if (free == 0) {
                return NIL;
            }
            int slot = Integer.numberOfTrailingZeros(free) & SLOT_MASK;
            free &= ~(1 << slot);
            memory[FLAG_CELLS + slot] = look(thread, COLOUR_CELL);
            for (int f = 0; f < fieldCount; f++) {
                memory[slot * MOST_FIELDS + f] = NIL;
            }
            serials[slot] = made;
            made++;
            return (serials[slot] << SERIAL_SHIFT) | slot;
        }

        void freeSlot(int slot) {
            free |= 1 << slot;
            freed++;
        }

        boolean isFree(int slot) {
            return (free & (1 << slot)) != 0;
        }

        boolean isHeld(int reference) {
            int slot = reference & SLOT_MASK;
            return (free & (1 << slot)) == 0 && serials[slot] == reference >> SERIAL_SHIFT;
        }

        int shade(int slot) {
            if (isFree(slot)) {
                return FREE;
            }
            if (memory[FLAG_CELLS + slot] != memory[MARK_CELL]) {
                return WHITE;
            }
            int works = 0;
            for (int t = 0; t <= mutatorCount; t++) {
                works |= strands[t].work;
            }
            return (works & (1 << slot)) != 0 ? GREY : BLACK;
        }

        int firstHarm() {
            for (int slot = 0; slot < slotCount; slot++) {
                for (int f = 0; f < fieldCount && shade(slot) == BLACK; f++) {
                    int reference = memory[slot * MOST_FIELDS + f];
                    if (reference >= 0 && shade(reference & SLOT_MASK) == WHITE) {
                        return 100 * slot + f;
                    }
                }
            }
            return NONE;
        }

        /** REACHED and LOST at once, for they are found on the same way. */
        int reach() {
            int found = 0;
            for (int t = 0; t <= mutatorCount; t++) {
                found |= claim(strands[t].marked) | claimWaiting(strands[t]);
            }
            for (int m = 0; m < mutatorCount; m++) {
                found |= claim(mutators[m].old);
                for (int r = 0; r < REGISTERS; r++) {
                    found |= claim(mutators[m].registers[r]);
                }
            }
            int followed = 0;
            for (int i = 0; i < MOST_SLOTS && reachedOf(found) != followed; i++) {
                int slot = Integer.numberOfTrailingZeros(reachedOf(found) & ~followed) & SLOT_MASK;
                followed |= 1 << slot;
                for (int f = 0; f < fieldCount; f++) {
                    found |= claim(memory[slot * MOST_FIELDS + f]);
                }
            }
            return found;
        }

        private int claimWaiting(Strand strand) {
            int found = 0;
            for (int i = 0; i < strand.waiting; i++) {
                if (strand.cells[i] < PHASE_CELL) {
                    found |= claim(strand.values[i]);
                }
            }
            return found;
        }

        private int claim(int reference) {
            if (reference < 0) {
                return 0;
            }
            int bit = 1 << (reference & SLOT_MASK);
            return isHeld(reference) ? bit : bit | bit << MOST_SLOTS;
        }

        static int reachedOf(int found) {
            return found & ((1 << MOST_SLOTS) - 1);
        }

        static int lostOf(int found) {
            return found >> MOST_SLOTS;
        }
    }

    /** A MUTATOR: its SCRIPT, its ROOTS, and how far it is with a store or an answer. */
    static final class Mutator {
        private static final int BETWEEN = 0;
        private static final int BARRIERS_WAIT = 1;
        private static final int WRITE_WAITS = 2;
        private static final int ANSWERS = 3;

        private final int thread;
        private final int[] noLines = new int[0];
        private final int[] serialsSeen = new int[KEPT_SEEN];
        private int[] lines = noLines;
        private int stage;
        private int nextRoot;
        final int[] registers = new int[REGISTERS];
        int line;
        int asked;
        int old = NIL;
        int seenCount;

        Mutator(int thread) {
            this.thread = thread;
        }

        void begin() {
            lines = noLines;
            stage = BETWEEN;
            nextRoot = 0;
            Arrays.fill(registers, NIL);
            line = 0;
            asked = ASKED_NOTHING;
            old = NIL;
            seenCount = 0;
        }

        void copyFrom(Mutator other) {
            lines = other.lines;
            stage = other.stage;
            nextRoot = other.nextRoot;
            System.arraycopy(other.serialsSeen, 0, serialsSeen, 0, KEPT_SEEN);
            System.arraycopy(other.registers, 0, registers, 0, REGISTERS);
            line = other.line;
            asked = other.asked;
            old = other.old;
            seenCount = other.seenCount;
        }

        boolean isBetween() {
            return stage == BETWEEN;
        }

        void take(int[] newLines) {
            lines = newLines;
            line = 0;
        }

        int lineCount() {
            return lines.length / 4;
        }

        int seenAt(int k) {
            int kept = Math.min(seenCount, KEPT_SEEN);
            if (!within(k, 0, kept - 1)) {
                return NO_SUCH;
            }
            return serialsSeen[(seenCount - kept + k) & (KEPT_SEEN - 1)];
        }

        boolean step(Heap heap) {
            if (stage == ANSWERS || stage == BETWEEN && asked != ASKED_NOTHING) {
                return answer(heap);
            }
            return stage == BETWEEN ? doLine(heap) : goOnStoring(heap);
        }

        private boolean answer(Heap heap) {
            if (!heap.passesFence(thread)) {
                return false;
            }
            if (heap.isMarking(thread)) {
                return heap.goOnMarking(thread);
            }
            if (asked == ASKED_ROOTS) {
                int root = takeNextRoot();
                if (root != NIL) {
                    stage = ANSWERS;
                    return heap.beginMark(thread, root);
                }
            }
            if (asked != ASKED_PLAIN) {
                heap.handOverWork(thread);
            }
            asked = ASKED_NOTHING;
            stage = BETWEEN;
            nextRoot = 0;
            return true;
        }

        private int takeNextRoot() {
            int root = NIL;
            while (root == NIL && nextRoot < REGISTERS) {
                root = registers[nextRoot];
                nextRoot++;
            }
            return root;
        }

        private boolean doLine(Heap heap) {
            if (line >= lineCount()) {
                return false;
            }
            int a = argument(1);
            int b = argument(2);
            switch (argument(0)) {
                case NEW:
                    return doNew(heap, a);
                case DROP:
                    registers[a] = NIL;
                    break;
                case SEE:
                    serialsSeen[seenCount & (KEPT_SEEN - 1)] = registers[a] >> SERIAL_SHIFT;
                    seenCount++;
                    break;
                case COPY:
                    registers[a] = registers[b];
                    break;
                case LOAD:
                    registers[a] = fieldRead(heap, registers[b], argument(3));
                    break;
                case STORE:
                    return beginStore(heap, registers[a], b);
                default:
                    line = Math.min(a, lineCount());
                    return true;
            }
            line++;
            return true;
        }

        private int argument(int k) {
            int at = line * 4 + k;
            return within(at, 0, lines.length - 1) ? lines[at] : 0;
        }

        private boolean doNew(Heap heap, int register) {
            int made = heap.makeObject(thread);
            if (made == NIL) {
                return false;
            }
            registers[register] = made;
            line++;
            return true;
        }

        /** What a load or store READS through a REFERENCE. */
        private int fieldRead(Heap heap, int holder, int field) {
            if (holder == NIL) {
                return NIL;
            }
            if (!heap.isHeld(holder)) {
                heap.stray++;
            }
            return heap.look(thread, (holder & SLOT_MASK) * MOST_FIELDS + field);
        }

        private boolean beginStore(Heap heap, int holder, int field) {
            if (holder == NIL) {
                line++;
                return true;
            }
            old = fieldRead(heap, holder, field);
            stage = BARRIERS_WAIT;
            return true;
        }

        /** What is left away is asked when a STEP comes to it, as leave() speaks of now on. */
        private boolean goOnStoring(Heap heap) {
            if (heap.isMarking(thread)) {
                return heap.goOnMarking(thread);
            }
            int added = registers[argument(3)];
            int deleted = old;
            if (deleted != NIL && (heap.left & LEFT_DELETION) == 0) {
                old = NIL;
                return heap.beginMark(thread, deleted);
            }
            if (stage == BARRIERS_WAIT && added != NIL && (heap.left & LEFT_INSERTION) == 0) {
                old = NIL;
                stage = WRITE_WAITS;
                return heap.beginMark(thread, added);
            }
            int cell = (registers[argument(1)] & SLOT_MASK) * MOST_FIELDS + argument(2);
            if (!heap.enqueue(thread, cell, added)) {
                return false;
            }
            old = NIL;
            stage = BETWEEN;
            line++;
            return true;
        }
    }

    /** The COLLECTOR: how far it is with its ROUND. */
    static final class Collector {
        private static final int ASK_PLAIN = 0;
        private static final int ASK_ROOTS = 1;
        private static final int ASK_WORK = 2;
        private static final int AWAIT = 3;
        private static final int FLIP_MARK = 4;
        private static final int WRITE_INIT = 5;
        private static final int WRITE_MARK = 6;
        private static final int WRITE_COLOUR = 7;
        private static final int SCAN = 8;
        private static final int WRITE_SWEEP = 9;
        private static final int SWEEP = 10;
        private static final int WRITE_IDLE = 11;

        private static final int[] ROUND = {
            ASK_PLAIN, AWAIT, FLIP_MARK,
            ASK_PLAIN, AWAIT, WRITE_INIT,
            ASK_PLAIN, AWAIT, WRITE_MARK, WRITE_COLOUR,
            ASK_PLAIN, AWAIT, ASK_ROOTS, AWAIT,
            SCAN, ASK_WORK, AWAIT,
            WRITE_SWEEP, SWEEP, WRITE_IDLE,
        };
        private static final int AT_SCAN = 14;
        private static final int AT_ASK_WORK = 15;
        private static final int AT_WRITE_SWEEP = 17;

        private int at;
        private int scanned = NONE;
        private int nextField;
        private int nextSlot;
        int rounds;

        void begin() {
            at = 0;
            scanned = NONE;
            nextField = 0;
            nextSlot = 0;
            rounds = 0;
        }

        void copyFrom(Collector other) {
            at = other.at;
            scanned = other.scanned;
            nextField = other.nextField;
            nextSlot = other.nextSlot;
            rounds = other.rounds;
        }

        boolean step(Heap heap) {
            switch (within(at, 0, ROUND.length - 1) ? ROUND[at] : ASK_PLAIN) {
                case ASK_PLAIN:
                    return ask(heap, ASKED_PLAIN);
                case ASK_ROOTS:
                    return ask(heap, ASKED_ROOTS);
                case ASK_WORK:
                    return ask(heap, ASKED_WORK);
                case AWAIT:
                    return goOnIfAnswered(heap);
                case FLIP_MARK:
                    return writeCell(heap, MARK_CELL, 1 - heap.look(0, MARK_CELL));
                case WRITE_INIT:
                    return writeCell(heap, PHASE_CELL, PHASE_INIT);
                case WRITE_MARK:
                    return writeCell(heap, PHASE_CELL, PHASE_MARK);
                case WRITE_COLOUR:
                    return writeCell(heap, COLOUR_CELL, heap.look(0, MARK_CELL));
                case SCAN:
                    return scan(heap);
                case WRITE_SWEEP:
                    return writeCell(heap, PHASE_CELL, PHASE_SWEEP);
                case SWEEP:
                    return sweep(heap);
                default:
                    return endRound(heap);
            }
        }

        private boolean ask(Heap heap, int what) {
            if (!heap.passesFence(0)) {
                return false;
            }
            heap.askAll(what);
            at++;
            return true;
        }

        private boolean goOnIfAnswered(Heap heap) {
            if (heap.unanswered() != 0) {
                return false;
            }
            at++;
            boolean someWork = heap.strands[0].work != 0;
            if (at == AT_SCAN && !someWork) {
                at = AT_ASK_WORK;
            } else if (at == AT_WRITE_SWEEP && someWork) {
                at = AT_SCAN;
            }
            return true;
        }

        private boolean writeCell(Heap heap, int cell, int value) {
            if (!heap.enqueue(0, cell, value)) {
                return false;
            }
            at++;
            return true;
        }

        private boolean scan(Heap heap) {
            if (heap.isMarking(0)) {
                return heap.goOnMarking(0);
            }
            Strand strand = heap.strands[0];
            if (scanned == NONE) {
                scanned = Integer.numberOfTrailingZeros(strand.work) & SLOT_MASK;
                nextField = 0;
            }
            if (nextField < heap.fieldCount) {
                strand.marked = heap.look(0, scanned * MOST_FIELDS + nextField);
                strand.marking = strand.marked == NIL
                    ? Strand.MARKS_NOTHING : Strand.MARK_READS_FLAG;
                nextField++;
                return true;
            }
            strand.work &= ~(1 << scanned);
            scanned = NONE;
            if (strand.work == 0) {
                at = AT_ASK_WORK;
            }
            return true;
        }

        private boolean sweep(Heap heap) {
            boolean unmarked = heap.look(0, FLAG_CELLS + nextSlot) != heap.look(0, MARK_CELL);
            if (unmarked && !heap.isFree(nextSlot)) {
                heap.freeSlot(nextSlot);
            }
            nextSlot++;
            if (nextSlot >= heap.slotCount) {
                nextSlot = 0;
                at++;
            }
            return true;
        }

        private boolean endRound(Heap heap) {
            if (!writeCell(heap, PHASE_CELL, PHASE_IDLE)) {
                return false;
            }
            at = 0;
            rounds++;
            return true;
        }
    }

    /** Tries ENTRIES on HEAPS of its own, so that nothing of them stays. */
    static final class Search {
        private final Heap[] tried = new Heap[MOST_ROW + 1];
        private final int[] row = new int[MOST_ROW];
        final int[] best = new int[MOST_ROW];
        int most;
        private int known = NONE;

        Search() {
            for (int i = 0; i < tried.length; i++) {
                tried[i] = new Heap();
            }
        }

        /** What was found holds only as long as the HEAP is as it was. */
        void forget() {
            known = NONE;
        }

        boolean isBlocked(Heap heap, int thread) {
            tried[0].copyFrom(heap);
            return !tried[0].enter(thread);
        }

        /** Goes through the rows from the least on; tried[i] is the HEAP after i ENTRIES. */
        void find(Heap heap, int n) {
            if (known == n || !within(n, 0, MOST_ROW)) {
                return;
            }
            known = n;
            most = NONE;
            Arrays.fill(row, 0);
            tried[0].copyFrom(heap);
            int changed = 0;
            for (int i = 0; i < MOST_ROWS && changed >= 0; i++) {
                for (int k = changed; k < n; k++) {
                    tried[k + 1].copyFrom(tried[k]);
                    tried[k + 1].enter(row[k]);
                }
                int lostThen = Integer.bitCount(Heap.lostOf(tried[n].reach()));
                if (lostThen > most) {
                    most = lostThen;
                    System.arraycopy(row, 0, best, 0, MOST_ROW);
                }
                changed = nextRow(n, heap.mutatorCount);
            }
        }

        /** Where the next row begins to be another one; NONE behind the last row. */
        private int nextRow(int n, int lastThread) {
            for (int k = n - 1; k >= 0; k--) {
                if (row[k] < COMMITS_FROM + lastThread) {
                    row[k] = row[k] == lastThread ? COMMITS_FROM : row[k] + 1;
                    return k;
                }
                row[k] = 0;
            }
            return NONE;
        }
    }

    /** A TRIAL's ACTS, and what has been learnt of it. */
    static final class Trial {
        static final int CELLS_OF_A_TRIAL = 3;
        static final int MOST_VALUE = 3;
        static final int REGISTERS_OF_A_PARTY = 2;
        static final int ALL = 0;
        static final int STRICT = 1;
        private static final int MOST_PARTIES = 3;
        private static final int MOST_ACTS = 4;
        private static final int MOST_ACTS_OF_ALL = 9;
        private static final int WORDS_OF_OUTCOMES = 64;

        int parties;
        int allStates = NONE;
        int strictStates = NONE;
        final long[] all = new long[WORDS_OF_OUTCOMES];
        final long[] strict = new long[WORDS_OF_OUTCOMES];
        private int actsOfAll;
        private final int[] actCounts = new int[MOST_PARTIES];
        private final int[] putCounts = new int[MOST_PARTIES];
        private final int[] acts = new int[MOST_PARTIES * MOST_ACTS * 4];
        private final int[] puts = new int[MOST_PARTIES * MOST_ACTS];
        private final int[] putsBefore = new int[MOST_PARTIES * (MOST_ACTS + 1)];

        boolean hasRoomFor(int verb) {
            if (verb == PARTY) {
                return parties < MOST_PARTIES;
            }
            return within(parties, 1, MOST_PARTIES) && actCounts[parties - 1] < MOST_ACTS
                && actsOfAll < MOST_ACTS_OF_ALL;
        }

        void add(int verb, int[] arguments) {
            if (!hasRoomFor(verb)) {
                return;
            }
            if (verb == PARTY) {
                parties++;
                return;
            }
            int party = parties - 1;
            int act = party * MOST_ACTS + actCounts[party];
            acts[act * 4] = verb;
            System.arraycopy(arguments, 0, acts, act * 4 + 1, 3);
            if (verb == PUT) {
                puts[party * MOST_ACTS + putCounts[party]] = act;
                putCounts[party]++;
            }
            actCounts[party]++;
            actsOfAll++;
            putsBefore[party * (MOST_ACTS + 1) + actCounts[party]] = putCounts[party];
        }

        int actCount(int party) {
            return actCounts[party];
        }

        /** Of the next ACT of a PARTY that has done some, k 0: what it is, 1 to 3: its NUMBERS. */
        int act(int party, int done, int k) {
            return acts[(party * MOST_ACTS + done) * 4 + k];
        }

        /** Of the WRITE that waits behind younger ones, k 1: its CELL, 2: what it is to be. */
        int waitingPut(int party, int done, int younger, int k) {
            int put = putsBefore[party * (MOST_ACTS + 1) + done] - 1 - younger;
            return put < 0 ? 0 : acts[puts[party * MOST_ACTS + put] * 4 + k];
        }

        int size(int sort) {
            int number = 0;
            for (int i = 0; i < WORDS_OF_OUTCOMES; i++) {
                number += Long.bitCount(word(sort, i));
            }
            return number;
        }

        int at(int sort, int k) {
            int ahead = k;
            for (int i = 0; i < WORDS_OF_OUTCOMES; i++) {
                long bits = word(sort, i);
                int here = Long.bitCount(bits);
                if (ahead < here) {
                    for (int skipped = 0; skipped < ahead; skipped++) {
                        bits &= bits - 1;
                    }
                    return i * 64 + Long.numberOfTrailingZeros(bits);
                }
                ahead -= here;
            }
            return NONE;
        }

        private long word(int sort, int i) {
            if (sort == ALL) {
                return all[i];
            }
            return sort == STRICT ? strict[i] : all[i] & ~strict[i];
        }
    }

    /**
     * Comes to all STATES of a TRIAL. A STATE is one number: what MEMORY has, the REGISTERS, and
     * of each PARTY 3 * ACTS done + WRITES that wait (what these are follows from the ACTS done).
     */
    static final class Explorer {
        private static final int REGISTERS_FROM = 6;
        private static final int PARTIES_FROM = 18;
        private static final int BITS_OF_A_PARTY = 4;
        private static final int WRITES_OF_A_PARTY = 2;
        private static final int FIRST_SIZE = 1024;
        private static final int MOST_STATES = 1 << 20;

        private Trial trial;
        private boolean strict;
        private int[] queue = new int[0];
        private int found;
        private int[] table = new int[0];
        private int tableSize;

        void learn(Trial asked, boolean strictly) {
            boolean knows = (strictly ? asked.strictStates : asked.allStates) != NONE;
            if (knows) {
                return;
            }
            trial = asked;
            strict = strictly;
            found = 0;
            layTable(FIRST_SIZE);
            come(0);
            for (int i = 0; i < found && i < MOST_STATES; i++) {
                goOnFrom(queue[i]);
            }
            if (strictly) {
                asked.strictStates = found;
            } else {
                asked.allStates = found;
            }
        }

        private void goOnFrom(int state) {
            boolean over = true;
            for (int p = 0; p < trial.parties; p++) {
                int place = (state >> shiftOf(p)) & ((1 << BITS_OF_A_PARTY) - 1);
                int done = place / 3;
                int waiting = place % 3;
                if (done < trial.actCount(p)) {
                    doAct(state, p, done, waiting);
                    over = false;
                }
                if (waiting > 0) {
                    int cell = trial.waitingPut(p, done, waiting - 1, 1);
                    int value = trial.waitingPut(p, done, waiting - 1, 2);
                    come(with(state, 2 * cell, value) - (1 << shiftOf(p)));
                    over = false;
                }
            }
            if (over) {
                noteOutcome(state);
            }
        }

        private void doAct(int state, int party, int done, int waiting) {
            int first = trial.act(party, done, 1);
            int second = trial.act(party, done, 2);
            int after = state + (3 << shiftOf(party));
            switch (trial.act(party, done, 0)) {
                case PUT:
                    if (strict) {
                        come(with(after, 2 * first, second));
                    } else if (waiting < WRITES_OF_A_PARTY) {
                        come(after + (1 << shiftOf(party)));
                    }
                    break;
                case GET:
                    come(with(after, registerAt(party, first),
                        valueRead(state, party, done, waiting, second)));
                    break;
                case SWAP:
                    if (waiting == 0) {
                        int had = (state >> (2 * first)) & 3;
                        int third = trial.act(party, done, 3);
                        come(with(with(after, 2 * first, second), registerAt(party, third), had));
                    }
                    break;
                default:
                    if (waiting == 0) {
                        come(after);
                    }
                    break;
            }
        }

        private int valueRead(int state, int party, int done, int waiting, int cell) {
            for (int younger = 0; younger < waiting; younger++) {
                if (trial.waitingPut(party, done, younger, 1) == cell) {
                    return trial.waitingPut(party, done, younger, 2);
                }
            }
            return (state >> (2 * cell)) & 3;
        }

        private void noteOutcome(int state) {
            int outcome = 0;
            for (int i = 0; i < 2 * trial.parties; i++) {
                outcome = outcome * 4 + ((state >> (REGISTERS_FROM + 2 * i)) & 3);
            }
            long[] outcomes = strict ? trial.strict : trial.all;
            int word = outcome >> 6;
            if (within(word, 0, outcomes.length - 1)) {
                outcomes[word] |= 1L << (outcome & 63);
            }
        }

        private static int shiftOf(int party) {
            return PARTIES_FROM + BITS_OF_A_PARTY * party;
        }

        private static int registerAt(int party, int register) {
            return REGISTERS_FROM + 2 * (2 * party + register);
        }

        private static int with(int state, int shift, int value) {
            return (state & ~(3 << shift)) | (value << shift);
        }

        /** A STATE that was not come to before is put into the queue. */
        private void come(int state) {
            int at = placeIn(state);
            if (at == NONE || table[at] != 0 || found >= MOST_STATES) {
                return;
            }
            table[at] = state + 1;
            if (found >= queue.length) {
                queue = Arrays.copyOf(queue, Math.max(FIRST_SIZE, 2 * queue.length));
            }
            queue[found] = state;
            found++;
            if (2 * found > tableSize) {
                layTable(2 * tableSize);
                for (int i = 0; i < found; i++) {
                    int again = placeIn(queue[i]);
                    if (again != NONE) {
                        table[again] = queue[i] + 1;
                    }
                }
            }
        }

        private void layTable(int size) {
            tableSize = size;
            if (table.length < size) {
                table = new int[size];
            } else {
                Arrays.fill(table, 0, size, 0);
            }
        }

        /** Where a STATE is in the table, or may be put. */
        private int placeIn(int state) {
            int mask = tableSize - 1;
            int at = (state * 0x9E3779B1 >>> 7) & mask;
            for (int i = 0; i < tableSize; i++) {
                if (table[at] == 0 || table[at] == state + 1) {
                    return at;
                }
                at = (at + 1) & mask;
            }
            return NONE;
        }
    }

    /** All that is told, as it was. */
    static final class Image {
        final Heap heap = new Heap();
        final Tape tape = new Tape();
        Trial trial;
    }
}
