import java.util.Arrays;

/** A maker of drivers: a book of a chip's fields and laws, the code of acts, and a stepped chip that runs it. */
public final class DriverBook {
    public static final int NONE = -1, OVERLAP = -2, FULL = -3, KIND = -4, TIMEOUT = -5, LATE = -6, UNABLE = -7;
    public static final int NOTHING = -11, CAST = -12, PLACE = -13, SIZE = -14, THROWN = -15;

    private static final int MOST_REGISTERS = 8;
    private static final int REGISTER_BITS = 16;
    private static final int MOST_FIELDS = 24;
    private static final int MOST_WIDTH = 8;
    private static final int MOST_PERIOD = 9;
    private static final int MOST_LAWS = 12;
    private static final int MOST_LAW_NUMBER = 255;
    private static final int MOST_ACTS = 6;
    private static final int MOST_STEPS = 12;
    private static final int MOST_PAUSE = 9;
    private static final int MOST_LIMIT = 20;
    private static final int MOST_EVENTS = 16;
    private static final int LAST_EVENT_TICK = 9999;
    private static final int MOST_WAIT = 50;
    private static final int MOST_IN_A_ROW = 8;
    private static final int TAPES = 6;
    private static final int MOST_PLACES = 64;
    private static final long MOST_INT = 2147483647L;

    private final Book book;
    private final State state;
    private final Chip chip;
    private final Driver driver;
    private final Walker walker;
    private final Tape[] tapes;
    private int hostRefusals;

    public DriverBook() {
        book = new Book();
        state = new State();
        chip = new Chip(book, state);
        driver = new Driver(book, state, chip);
        walker = new Walker(book, state, driver);
        tapes = new Tape[TAPES];
        for (int d = 0; d < TAPES; d++) {
            tapes[d] = new Tape();
        }
        hostRefusals = 0;
    }

    // ---- the book: registers, fields, laws ----

    public int begin(int registers) {
        if (registers < 1 || registers > MOST_REGISTERS) {
            return NONE;
        }
        book.startAnew(registers);
        walker.forget();
        hostRefusals = 0;
        chip.powerUp();
        return registers;
    }

    public int field(int register, int low, int width, int kind, int reset) {
        if (!book.hasRegister(register) || kind < Field.PLAIN || kind > Field.LOAD) {
            return NONE;
        }
        if (low < 0 || width < 1 || width > MOST_WIDTH || low > REGISTER_BITS - width) {
            return NONE;
        }
        if (!fits(reset, width) || (reset != 0 && (kind == Field.PULSE || kind == Field.LOAD))) {
            return NONE;
        }
        int bits = ((1 << width) - 1) << low;
        if ((book.bitsOfAll(register) & bits) != 0) {
            return OVERLAP;
        }
        if (book.fieldCount >= MOST_FIELDS) {
            return FULL;
        }
        int number = book.tellField(register, low, width, kind, reset);
        chip.powerUp();
        return number;
    }

    public int period(int field, int ticks) {
        if (!book.hasField(field) || ticks < 1 || ticks > MOST_PERIOD) {
            return NONE;
        }
        if (book.fields[field].kind != Field.PULSE) {
            return KIND;
        }
        int had = book.changePeriod(field, ticks);
        chip.powerUp();
        return had;
    }

    public int done(int field, int other) {
        if (!book.hasField(field) || (other != -1 && !book.hasField(other))) {
            return NONE;
        }
        if (book.fields[field].kind != Field.PULSE) {
            return KIND;
        }
        if (other != -1 && book.fields[other].kind != Field.STATUS && book.fields[other].kind != Field.FLAG) {
            return KIND;
        }
        int had = book.changeDone(field, other);
        chip.powerUp();
        return had;
    }

    public int law(int kind, int f, int g, int v) {
        if (kind < Law.WHILE || kind > Law.SOON || !book.hasField(f) || !book.hasField(g)) {
            return NONE;
        }
        if (v < 0 || v > MOST_LAW_NUMBER) {
            return NONE;
        }
        if (book.lawCount >= MOST_LAWS) {
            return FULL;
        }
        return book.tellLaw(kind, f, g, v);
    }

    // ---- acts, handlers and their code ----

    public int act() {
        if (book.actCount >= MOST_ACTS) {
            return FULL;
        }
        return book.tellAct();
    }

    public int step(int act, int kind, int field, int v, int limit) {
        if (!book.hasAct(act) || kind < Act.SET || kind > Act.PAUSE) {
            return NONE;
        }
        if (kind == Act.PAUSE ? field != -1 : !book.hasField(field)) {
            return NONE;
        }
        if (!isStepNumber(kind, field, v)) {
            return NONE;
        }
        if (limit < 0 || limit > (kind == Act.AWAIT ? MOST_LIMIT : 0)) {
            return NONE;
        }
        if (kind != Act.PAUSE && !allowsStep(book.fields[field].kind, kind)) {
            return KIND;
        }
        if (book.acts[act].stepCount >= MOST_STEPS) {
            return FULL;
        }
        return book.tellStep(act, kind, field, v, limit);
    }

    public int bare(int act) {
        if (!book.hasAct(act)) {
            return NONE;
        }
        return book.dropSteps(act);
    }

    public int handler(int field, int act) {
        if (!book.hasField(field) || (act != -1 && !book.hasAct(act))) {
            return NONE;
        }
        if (book.fields[field].kind != Field.FLAG) {
            return KIND;
        }
        return book.changeHandler(field, act);
    }

    public int locks(int on) {
        if (on != 0 && on != 1) {
            return NONE;
        }
        return book.changeLocks(on);
    }

    public int code(int act) {
        if (!book.hasAct(act)) {
            return NONE;
        }
        book.makeCode();
        return book.acts[act].code.size;
    }

    public int op(int act, int i, int what) {
        if (!book.hasAct(act) || what < 0 || what >= Code.PARTS) {
            return NONE;
        }
        book.makeCode();
        Code made = book.acts[act].code;
        return i >= 0 && i < made.size ? made.part(i, what) : NONE;
    }

    public int same(int act, int other) {
        if (!book.hasAct(act) || !book.hasAct(other)) {
            return NONE;
        }
        book.makeCode();
        return book.acts[act].code.isLike(book.acts[other].code) ? 1 : 0;
    }

    // ---- the chip, stepped ----

    public int power() {
        chip.powerUp();
        return book.fieldCount;
    }

    public int event(int field, int v, int tick) {
        if (!book.hasField(field) || !fits(v, book.fields[field].width) || tick > LAST_EVENT_TICK) {
            return NONE;
        }
        int kind = book.fields[field].kind;
        if (kind != Field.STATUS && kind != Field.FLAG && kind != Field.TAKEN) {
            return KIND;
        }
        if (tick <= state.now) {
            return LATE;
        }
        if (state.eventCount >= MOST_EVENTS) {
            return FULL;
        }
        state.tellEvent(field, v, tick);
        return state.eventCount;
    }

    public int run(int act) {
        if (!book.hasAct(act)) {
            return NONE;
        }
        book.makeCode();
        long before = state.now;
        return driver.runAct(act) ? nearestInt(state.now - before) : TIMEOUT;
    }

    public int read(int register) {
        return book.hasRegister(register) ? chip.readRegister(register, false) : NONE;
    }

    public int write(int register, int number) {
        if (!book.hasRegister(register) || !fits(number, REGISTER_BITS)) {
            return NONE;
        }
        chip.writeRegister(register, number);
        return nearestInt(state.now);
    }

    public int wait(int n) {
        if (n < 0 || n > MOST_WAIT) {
            return NONE;
        }
        for (int k = 0; k < n; k++) {
            chip.tick();
        }
        return nearestInt(state.now);
    }

    public int peek(int field, int what) {
        if (!book.hasField(field) || what < 0 || what > 3) {
            return NONE;
        }
        int kind = book.fields[field].kind;
        switch (what) {
            case 0:
                return state.value[field];
            case 1:
                return kind == Field.HELD ? state.pending[field] : KIND;
            case 2:
                return kind == Field.PULSE ? state.timer[field] : KIND;
            default:
                return kind == Field.TAKEN ? state.soft[field] : KIND;
        }
    }

    public int shadow(int register) {
        return book.hasRegister(register) ? state.shadow[register] : NONE;
    }

    public int result() {
        return state.result;
    }

    public int breaks(int what) {
        switch (what) {
            case 0:
                return nearestInt(state.breakCount);
            case 1:
                return state.breakCount > 0 ? state.firstLaw : NONE;
            case 2:
                return state.breakCount > 0 ? nearestInt(state.firstNow) : NONE;
            default:
                return NONE;
        }
    }

    // ---- the walk ----

    public int walk(int act, int field) {
        if (!book.hasAct(act) || !book.hasField(field)) {
            return NONE;
        }
        Field flag = book.fields[field];
        if (flag.kind != Field.FLAG || !book.hasAct(flag.handler)) {
            return KIND;
        }
        book.makeCode();
        walker.keepStart();
        int answer = walker.firstUnwell(act, field);
        walker.restoreStart();
        return answer;
    }

    public int why(int what) {
        if (walker.rule == 0) {
            return NONE;
        }
        switch (what) {
            case 0:
                return walker.rule;
            case 1:
                return walker.ruleField;
            default:
                return NONE;
        }
    }

    // ---- tapes ----

    public int tape(int d, int sort, int n) {
        if (!isTape(d) || sort < Tape.BYTES || sort > Tape.LONGS || n > MOST_PLACES) {
            return NONE;
        }
        if (n < 0) {
            return hostRefuses(SIZE);
        }
        tapes[d].takeRow(sort, n);
        return n;
    }

    public int image(int d) {
        if (!isTape(d)) {
            return NONE;
        }
        tapes[d].takeImage(state, book.age);
        return nearestInt(state.now);
    }

    public int back(int d) {
        if (!isTape(d)) {
            return NONE;
        }
        Tape tape = tapes[d];
        if (tape.sort != Tape.IMAGE) {
            return hostRefuses(tape.sort == Tape.EMPTY ? NOTHING : CAST);
        }
        if (tape.age != book.age) {
            return UNABLE;
        }
        state.takeFrom(tape.image);
        return nearestInt(state.now);
    }

    public int toss(int d) {
        if (!isTape(d)) {
            return NONE;
        }
        Tape tape = tapes[d];
        if (tape.sort != Tape.IMAGE) {
            return hostRefuses(tape.sort == Tape.EMPTY ? NOTHING : CAST);
        }
        try {
            tape.throwFailure();
        } catch (IllegalStateException failure) {
            return nearestInt(tape.image.breakCount);
        }
        return hostRefuses(THROWN);
    }

    public int play(int d, int i, int n) {
        if (!isTape(d) || n < 0 || n > MOST_PLACES) {
            return NONE;
        }
        Tape tape = tapes[d];
        if (tape.sort != Tape.INTS) {
            return hostRefuses(tape.sort == Tape.EMPTY ? NOTHING : CAST);
        }
        book.makeCode();
        for (int k = 0; k < n; k++) {
            // a place that is wrong is wrong at k = 0 or just behind the row, so i + k never wraps round unseen
            if (!tape.hasPlace(i + k)) {
                return hostRefuses(PLACE);
            }
            int act = (int) tape.row[i + k];
            if (!book.hasAct(act) || !driver.runAct(act)) {
                return k;
            }
        }
        return n;
    }

    public int clear(int d) {
        if (!isTape(d)) {
            return NONE;
        }
        int held = tapes[d].sort;
        tapes[d].sort = Tape.EMPTY;
        return held;
    }

    public int put(int d, int i, long v) {
        if (!isTape(d)) {
            return NONE;
        }
        Tape tape = tapes[d];
        if (!tape.holdsRow()) {
            return hostRefuses(tape.sort == Tape.EMPTY ? NOTHING : CAST);
        }
        if (!tape.hasPlace(i)) {
            return hostRefuses(PLACE);
        }
        tape.row[i] = tape.narrowed(v);
        return 1;
    }

    public long at(int d, int i) throws IllegalArgumentException, IllegalStateException {
        if (!isTape(d)) {
            throw new IllegalArgumentException("no such tape");
        }
        Tape tape = tapes[d];
        if (!tape.holdsRow() || !tape.hasPlace(i)) {
            throw new IllegalStateException("no row with such a place");
        }
        return tape.row[i];
    }

    public int copy(int d, int i, int e, int j, int n) {
        if (!isTape(d) || !isTape(e)) {
            return NONE;
        }
        Tape from = tapes[d];
        Tape to = tapes[e];
        if (from.sort == Tape.EMPTY || to.sort == Tape.EMPTY) {
            return hostRefuses(NOTHING);
        }
        if (!from.holdsRow() || from.sort != to.sort) {
            return hostRefuses(CAST);
        }
        if (!from.hasPlaces(i, n) || !to.hasPlaces(j, n)) {
            return hostRefuses(PLACE);
        }
        System.arraycopy(from.row, i, to.row, j, n);
        return n;
    }

    public int count(int what) {
        switch (what) {
            case 0:
                return book.registerCount;
            case 1:
                return book.fieldCount;
            case 2:
                return book.lawCount;
            case 3:
                return book.actCount;
            case 4:
                return nearestInt(state.now);
            case 5:
                return state.served;
            case 6:
                return state.eventCount;
            case 7:
                return book.locks;
            case 8:
                return hostRefusals;
            default:
                return NONE;
        }
    }

    // ---- what the refusals ask ----

    /** 512 calls can bring NOW and the BREAKS above what an int holds; a wrapped number would look like a refusal. */
    private static int nearestInt(long number) {
        return (int) Math.min(number, MOST_INT);
    }

    private static boolean fits(int number, int width) {
        return number >= 0 && number < (1 << width);
    }

    /** Sets of fields are numbers that have a bit for each field. */
    private static boolean isIn(int fieldSet, int field) {
        return (fieldSet >> field & 1) != 0;
    }

    private static boolean isTape(int d) {
        return d >= 0 && d < TAPES;
    }

    private int hostRefuses(int refusal) {
        hostRefusals++;
        return refusal;
    }

    private boolean isStepNumber(int kind, int field, int v) {
        switch (kind) {
            case Act.GET:
                return v == 0;
            case Act.PAUSE:
                return v >= 1 && v <= MOST_PAUSE;
            default:
                return fits(v, book.fields[field].width);
        }
    }

    private static boolean allowsStep(int fieldKind, int stepKind) {
        if (stepKind == Act.SET) {
            return fieldKind != Field.STATUS && fieldKind != Field.TAKEN;
        }
        return stepKind != Act.AWAIT || fieldKind != Field.TAKEN;
    }

    /** A field as it is told; its value is the state's. */
    private static final class Field {
        static final int PLAIN = 0, STATUS = 1, FLAG = 2, TAKEN = 3, PULSE = 4, HELD = 5, LOAD = 6;
        static final int FIRST_PERIOD = 3;

        int register;
        int low;
        int width;
        int kind;
        int reset;
        /** The largest number of its width. */
        int ones;
        /** Its bits in the register. */
        int mask;
        int period;
        int done;
        int handler;

        int bitsIn(int number) {
            return (number >> low) & ones;
        }

        /** Whether its bits are what a driver must write again when it writes the field's neighbours. */
        boolean isKept() {
            return kind == PLAIN || kind == HELD;
        }
    }

    private static final class Law {
        static final int WHILE = 0, UNLESS = 1, SOON = 2;

        int kind;
        int f;
        int g;
        int v;

        boolean binds(int field, int fieldSet) {
            return (f == field && isIn(fieldSet, g)) || (g == field && isIn(fieldSet, f));
        }
    }

    /** All that is told of the chip and the driver, but for their state. */
    private static final class Book {
        final Field[] fields = new Field[MOST_FIELDS];
        final Law[] laws = new Law[MOST_LAWS];
        final Act[] acts = new Act[MOST_ACTS];
        int registerCount = 4;
        int fieldCount = 0;
        int lawCount = 0;
        int actCount = 0;
        int locks = 1;
        /** Grows with each change that makes older images useless. */
        int age = 0;
        /** Whether the acts' code is that of the book as it stands now. */
        private boolean codeIsMade = false;

        Book() {
            for (int i = 0; i < MOST_FIELDS; i++) {
                fields[i] = new Field();
            }
            for (int i = 0; i < MOST_LAWS; i++) {
                laws[i] = new Law();
            }
            for (int i = 0; i < MOST_ACTS; i++) {
                acts[i] = new Act();
            }
        }

        void startAnew(int registers) {
            registerCount = registers;
            fieldCount = 0;
            lawCount = 0;
            actCount = 0;
            locks = 1;
            age++;
            codeIsMade = false;
        }

        boolean hasRegister(int register) {
            return register >= 0 && register < registerCount;
        }

        boolean hasField(int field) {
            return field >= 0 && field < fieldCount;
        }

        boolean hasAct(int act) {
            return act >= 0 && act < actCount;
        }

        boolean hasHandlers() {
            for (int i = 0; i < fieldCount; i++) {
                if (fields[i].handler >= 0) {
                    return true;
                }
            }
            return false;
        }

        int tellField(int register, int low, int width, int kind, int reset) {
            Field told = fields[fieldCount];
            told.register = register;
            told.low = low;
            told.width = width;
            told.kind = kind;
            told.reset = reset;
            told.ones = (1 << width) - 1;
            told.mask = told.ones << low;
            told.period = Field.FIRST_PERIOD;
            told.done = -1;
            told.handler = -1;
            age++;
            codeIsMade = false;
            fieldCount++;
            return fieldCount - 1;
        }

        int tellLaw(int kind, int f, int g, int v) {
            Law told = laws[lawCount];
            told.kind = kind;
            told.f = f;
            told.g = g;
            told.v = v;
            codeIsMade = false;
            lawCount++;
            return lawCount - 1;
        }

        int changePeriod(int field, int ticks) {
            int had = fields[field].period;
            fields[field].period = ticks;
            age++;
            return had;
        }

        int changeDone(int field, int other) {
            int had = fields[field].done;
            fields[field].done = other;
            age++;
            return had;
        }

        int changeHandler(int field, int act) {
            int had = fields[field].handler;
            fields[field].handler = act;
            codeIsMade = false;
            return had;
        }

        int changeLocks(int on) {
            int had = locks;
            locks = on;
            codeIsMade = false;
            return had;
        }

        int tellAct() {
            acts[actCount].stepCount = 0;
            codeIsMade = false;
            actCount++;
            return actCount - 1;
        }

        int tellStep(int act, int kind, int field, int v, int limit) {
            codeIsMade = false;
            return acts[act].append(kind, field, v, limit);
        }

        int dropSteps(int act) {
            int had = acts[act].stepCount;
            acts[act].stepCount = 0;
            codeIsMade = false;
            return had;
        }

        int bitsOfAll(int register) {
            int bits = 0;
            for (int i = 0; i < fieldCount; i++) {
                if (fields[i].register == register) {
                    bits |= fields[i].mask;
                }
            }
            return bits;
        }

        int bitsOfKept(int register) {
            int bits = 0;
            for (int i = 0; i < fieldCount; i++) {
                if (fields[i].register == register && fields[i].isKept()) {
                    bits |= fields[i].mask;
                }
            }
            return bits;
        }

        /** Such a register can't be read back for a write: a read takes bits away, or doesn't tell what is pending. */
        boolean isShadowed(int register) {
            for (int i = 0; i < fieldCount; i++) {
                Field field = fields[i];
                if (field.register == register && (field.kind == Field.TAKEN || field.kind == Field.HELD)) {
                    return true;
                }
            }
            return false;
        }

        boolean isBound(int field, int fieldSet) {
            for (int i = 0; i < lawCount; i++) {
                if (laws[i].binds(field, fieldSet)) {
                    return true;
                }
            }
            return false;
        }

        /** Code hangs on fields, laws, handlers and locks, so each change of these makes all of it anew. */
        void makeCode() {
            if (codeIsMade) {
                return;
            }
            for (int i = 0; i < actCount; i++) {
                acts[i].code.makeFrom(acts[i], this);
            }
            codeIsMade = true;
        }
    }

    private static final class Act {
        static final int SET = 0, AWAIT = 1, GET = 2, PAUSE = 3;

        final int[] kinds = new int[MOST_STEPS];
        final int[] stepFields = new int[MOST_STEPS];
        final int[] numbers = new int[MOST_STEPS];
        final int[] limits = new int[MOST_STEPS];
        final Code code = new Code();
        int stepCount = 0;

        int append(int kind, int field, int v, int limit) {
            kinds[stepCount] = kind;
            stepFields[stepCount] = field;
            numbers[stepCount] = v;
            limits[stepCount] = limit;
            stepCount++;
            return stepCount;
        }

        /** What the field is set to last, or -1. */
        int lastSet(int field) {
            for (int i = stepCount - 1; i >= 0; i--) {
                if (kinds[i] == SET && stepFields[i] == field) {
                    return numbers[i];
                }
            }
            return -1;
        }
    }

    /** Instructions over registers, made from an act's steps. */
    private static final class Code {
        static final int READ = 0, WRITE = 1, POLL = 2, PAUSE = 3, PICK = 4, LOCK = 5, FREE = 6;
        static final int BY_NOTHING = 0, BY_ACC = 1, BY_SHADOW = 2;
        static final int WHICH = 0, WHERE = 1, BY = 2, MASK = 3, BITS = 4, LIMIT = 5, PARTS = 6;
        static final int UNUSED = -2;
        /** A step makes four at the most: LOCK, READ, WRITE, FREE. */
        static final int MOST = MOST_STEPS * 4;

        private final int[] parts = new int[MOST * PARTS];
        int size = 0;
        private int groupSet = 0;
        private int groupRegister = 0;
        private int groupMask = 0;
        private int groupBits = 0;

        int part(int i, int what) {
            return parts[i * PARTS + what];
        }

        boolean isLike(Code other) {
            if (size != other.size) {
                return false;
            }
            for (int k = 0; k < size * PARTS; k++) {
                if (parts[k] != other.parts[k]) {
                    return false;
                }
            }
            return true;
        }

        void makeFrom(Act act, Book book) {
            size = 0;
            groupSet = 0;
            for (int i = 0; i < act.stepCount; i++) {
                if (act.kinds[i] == Act.SET) {
                    if (!joinsGroup(act.stepFields[i], book)) {
                        endGroup(book);
                    }
                    join(act.stepFields[i], act.numbers[i], book);
                } else {
                    endGroup(book);
                    addStep(act, i, book);
                }
            }
            endGroup(book);
        }

        private boolean joinsGroup(int field, Book book) {
            return groupSet != 0 && book.fields[field].register == groupRegister
                    && !isIn(groupSet, field) && !book.isBound(field, groupSet);
        }

        private void join(int number, int v, Book book) {
            Field field = book.fields[number];
            if (groupSet == 0) {
                groupRegister = field.register;
                groupMask = 0;
                groupBits = 0;
            }
            groupSet |= 1 << number;
            groupMask |= field.mask;
            groupBits |= v << field.low;
        }

        private void endGroup(Book book) {
            if (groupSet == 0) {
                return;
            }
            groupSet = 0;
            int r = groupRegister;
            // a register that isn't shadowed has no held fields, so one mask serves both
            int keep = book.bitsOfKept(r) & ~groupMask;
            if (keep == 0) {
                add(WRITE, r, BY_NOTHING, 0, groupBits, UNUSED);
            } else if (book.isShadowed(r)) {
                add(WRITE, r, BY_SHADOW, keep, groupBits, UNUSED);
            } else {
                addReadAndWrite(r, keep, book.locks == 1 && book.hasHandlers());
            }
        }

        private void addReadAndWrite(int r, int keep, boolean locked) {
            if (locked) {
                add(LOCK, UNUSED, UNUSED, UNUSED, UNUSED, UNUSED);
            }
            add(READ, r, UNUSED, UNUSED, UNUSED, UNUSED);
            add(WRITE, r, BY_ACC, keep, groupBits, UNUSED);
            if (locked) {
                add(FREE, UNUSED, UNUSED, UNUSED, UNUSED, UNUSED);
            }
        }

        private void addStep(Act act, int i, Book book) {
            int v = act.numbers[i];
            int number = act.stepFields[i];
            if (act.kinds[i] == Act.PAUSE || !book.hasField(number)) {
                add(PAUSE, v, UNUSED, UNUSED, UNUSED, UNUSED);
                return;
            }
            Field field = book.fields[number];
            if (act.kinds[i] == Act.AWAIT) {
                add(POLL, field.register, UNUSED, field.mask, v << field.low, act.limits[i]);
            } else {
                add(READ, field.register, UNUSED, UNUSED, UNUSED, UNUSED);
                add(PICK, number, UNUSED, UNUSED, UNUSED, UNUSED);
            }
        }

        private void add(int which, int where, int by, int mask, int bits, int limit) {
            if (size >= MOST) {
                return;
            }
            int k = size * PARTS;
            parts[k + WHICH] = which;
            parts[k + WHERE] = where;
            parts[k + BY] = by;
            parts[k + MASK] = mask;
            parts[k + BITS] = bits;
            parts[k + LIMIT] = limit;
            size++;
        }
    }

    /** The state of chip and driver: what POWER sets, and what an image holds. */
    private static final class State {
        static final long NEVER = -1L;

        final int[] value = new int[MOST_FIELDS];
        final int[] pending = new int[MOST_FIELDS];
        final int[] timer = new int[MOST_FIELDS];
        final int[] soft = new int[MOST_FIELDS];
        final long[] lastHit = new long[MOST_FIELDS];
        final int[] shadow = new int[MOST_REGISTERS];
        final int[] eventField = new int[MOST_EVENTS];
        final int[] eventValue = new int[MOST_EVENTS];
        final long[] eventTick = new long[MOST_EVENTS];
        int eventCount = 0;
        /** Long, like the breaks: plays of long handlers pass more ticks than an int counts. */
        long now = 0L;
        int result = 0;
        int served = 0;
        long breakCount = 0L;
        int firstLaw = -1;
        long firstNow = -1L;

        State() {
            Arrays.fill(lastHit, NEVER);
        }

        void blank() {
            Arrays.fill(value, 0);
            Arrays.fill(pending, 0);
            Arrays.fill(timer, 0);
            Arrays.fill(soft, 0);
            Arrays.fill(lastHit, NEVER);
            Arrays.fill(shadow, 0);
            eventCount = 0;
            now = 0L;
            result = 0;
            served = 0;
            breakCount = 0L;
            firstLaw = -1;
            firstNow = -1L;
        }

        void takeFrom(State other) {
            System.arraycopy(other.value, 0, value, 0, MOST_FIELDS);
            System.arraycopy(other.pending, 0, pending, 0, MOST_FIELDS);
            System.arraycopy(other.timer, 0, timer, 0, MOST_FIELDS);
            System.arraycopy(other.soft, 0, soft, 0, MOST_FIELDS);
            System.arraycopy(other.lastHit, 0, lastHit, 0, MOST_FIELDS);
            System.arraycopy(other.shadow, 0, shadow, 0, MOST_REGISTERS);
            System.arraycopy(other.eventField, 0, eventField, 0, MOST_EVENTS);
            System.arraycopy(other.eventValue, 0, eventValue, 0, MOST_EVENTS);
            System.arraycopy(other.eventTick, 0, eventTick, 0, MOST_EVENTS);
            eventCount = other.eventCount;
            now = other.now;
            result = other.result;
            served = other.served;
            breakCount = other.breakCount;
            firstLaw = other.firstLaw;
            firstNow = other.firstNow;
        }

        void tellEvent(int field, int v, long tick) {
            if (eventCount >= MOST_EVENTS) {
                return;
            }
            eventField[eventCount] = field;
            eventValue[eventCount] = v;
            eventTick[eventCount] = tick;
            eventCount++;
        }

        void countBreak(int law) {
            if (breakCount == 0) {
                firstLaw = law;
                firstNow = now;
            }
            breakCount++;
        }
    }

    /** The stepped chip: ticks, reads and writes. */
    private static final class Chip {
        private final Book book;
        private final State state;
        /** The fields of each register by number; all that loops over them would else look at every field. */
        private final int[][] fieldsIn = new int[MOST_REGISTERS][REGISTER_BITS];
        private final int[] fieldsInCount = new int[MOST_REGISTERS];
        final int[] keptBits = new int[MOST_REGISTERS];
        private final int[] pulses = new int[MOST_FIELDS];
        private int pulseCount = 0;

        Chip(Book book, State state) {
            this.book = book;
            this.state = state;
        }

        /** What changes the fields powers up too, so this is the place to sort them. */
        void powerUp() {
            state.blank();
            Arrays.fill(fieldsInCount, 0);
            Arrays.fill(keptBits, 0);
            pulseCount = 0;
            for (int i = 0; i < book.fieldCount; i++) {
                Field field = book.fields[i];
                sortIn(i, field);
                state.value[i] = field.reset;
                state.pending[i] = field.reset;
                if (field.isKept()) {
                    state.shadow[field.register] |= field.reset << field.low;
                }
            }
        }

        private void sortIn(int i, Field field) {
            int r = field.register;
            // fields share no bit, so a register has no more of them than bits
            if (fieldsInCount[r] < REGISTER_BITS) {
                fieldsIn[r][fieldsInCount[r]] = i;
                fieldsInCount[r]++;
            }
            if (field.isKept()) {
                keptBits[r] |= field.mask;
            }
            if (field.kind == Field.PULSE) {
                pulses[pulseCount] = i;
                pulseCount++;
            }
        }

        void tick() {
            state.now++;
            for (int k = 0; k < pulseCount; k++) {
                int i = pulses[k];
                if (state.timer[i] > 0) {
                    state.timer[i]--;
                    if (state.timer[i] == 0) {
                        endPulse(i);
                    }
                }
            }
            if (state.eventCount > 0) {
                fireEvents();
            }
        }

        private void endPulse(int pulse) {
            state.value[pulse] = 0;
            int done = book.fields[pulse].done;
            if (done >= 0) {
                state.value[done] = book.fields[done].ones;
            }
        }

        private void fireEvents() {
            int left = 0;
            for (int k = 0; k < state.eventCount; k++) {
                int i = state.eventField[k];
                if (state.eventTick[k] != state.now) {
                    state.eventField[left] = i;
                    state.eventValue[left] = state.eventValue[k];
                    state.eventTick[left] = state.eventTick[k];
                    left++;
                } else if (book.fields[i].kind == Field.STATUS) {
                    state.value[i] = state.eventValue[k];
                } else {
                    state.value[i] |= state.eventValue[k];
                }
            }
            state.eventCount = left;
        }

        /** Only a driver saves the taken bits that its read takes away. */
        int readRegister(int register, boolean savesTaken) {
            int number = 0;
            for (int k = 0; k < fieldsInCount[register]; k++) {
                int i = fieldsIn[register][k];
                Field field = book.fields[i];
                number |= state.value[i] << field.low;
                if (field.kind == Field.TAKEN) {
                    if (savesTaken) {
                        state.soft[i] |= state.value[i];
                    }
                    state.value[i] = 0;
                }
            }
            tick();
            return number;
        }

        void writeRegister(int register, int number) {
            int hits = hitsOf(register, number);
            // the laws look at hits of earlier writes, so this one's are noted behind them
            lookAtLaws(hits);
            for (int k = 0; k < fieldsInCount[register]; k++) {
                int i = fieldsIn[register][k];
                if (isIn(hits, i)) {
                    state.lastHit[i] = state.now;
                }
                writeField(i, book.fields[i].bitsIn(number));
            }
            tick();
        }

        /** The set of the fields that a write hits. */
        private int hitsOf(int register, int number) {
            int hits = 0;
            for (int k = 0; k < fieldsInCount[register]; k++) {
                int i = fieldsIn[register][k];
                if (isHit(i, book.fields[i].bitsIn(number))) {
                    hits |= 1 << i;
                }
            }
            return hits;
        }

        private boolean isHit(int i, int bits) {
            switch (book.fields[i].kind) {
                case Field.PLAIN:
                    return bits != state.value[i];
                case Field.HELD:
                    return bits != state.pending[i];
                case Field.FLAG:
                case Field.PULSE:
                case Field.LOAD:
                    return bits != 0;
                default:
                    return false;
            }
        }

        private void lookAtLaws(int hits) {
            for (int k = 0; k < book.lawCount; k++) {
                Law law = book.laws[k];
                if (isIn(hits, law.f) && isBroken(law)) {
                    state.countBreak(k);
                }
            }
        }

        private boolean isBroken(Law law) {
            switch (law.kind) {
                case Law.WHILE:
                    return state.value[law.g] == law.v;
                case Law.UNLESS:
                    return state.value[law.g] != law.v;
                default:
                    return state.lastHit[law.g] != State.NEVER && state.now - state.lastHit[law.g] < law.v;
            }
        }

        private void writeField(int i, int bits) {
            switch (book.fields[i].kind) {
                case Field.PLAIN:
                    state.value[i] = bits;
                    break;
                case Field.FLAG:
                    state.value[i] &= ~bits;
                    break;
                case Field.PULSE:
                    if (bits != 0) {
                        state.value[i] = bits;
                        state.timer[i] = book.fields[i].period;
                    }
                    break;
                case Field.HELD:
                    state.pending[i] = bits;
                    break;
                case Field.LOAD:
                    if (bits != 0) {
                        loadHeld();
                    }
                    break;
                default:
                    break;
            }
        }

        private void loadHeld() {
            for (int i = 0; i < book.fieldCount; i++) {
                if (book.fields[i].kind == Field.HELD) {
                    state.value[i] = state.pending[i];
                }
            }
        }
    }

    /** How far one run of a code has come. */
    private static final class Course {
        int at;
        /** Reads of a poll, or ticks of a pause, that are behind it in this instruction. */
        int beats;
        int acc;
        boolean timedOut;

        void start() {
            at = 0;
            beats = 0;
            acc = 0;
            timedOut = false;
        }

        boolean goesOn(Code code) {
            return at < code.size && !timedOut;
        }

        void next() {
            at++;
            beats = 0;
        }
    }

    /** Runs code beat by beat: handlers may come between any two beats of an act. */
    private static final class Driver {
        /** Far above the beats of any code. */
        private static final int MOST_BEATS = Code.MOST * (MOST_LIMIT + 1);

        private final Book book;
        private final State state;
        private final Chip chip;
        private final Course actCourse = new Course();
        private final Course handlerCourse = new Course();
        private boolean locked = false;

        Driver(Book book, State state, Chip chip) {
            this.book = book;
            this.state = state;
            this.chip = chip;
        }

        /** Whether the act came to its end without a timeout; its code must have been made. */
        boolean runAct(int act) {
            Code code = book.acts[act].code;
            locked = false;
            actCourse.start();
            for (int n = 0; n < MOST_BEATS && actCourse.goesOn(code); n++) {
                serve();
                beat(code, actCourse);
            }
            locked = false;
            serve();
            return !actCourse.timedOut;
        }

        private void serve() {
            for (int n = 0; n < MOST_IN_A_ROW && !locked; n++) {
                int act = calledAct();
                if (!book.hasAct(act)) {
                    return;
                }
                Code code = book.acts[act].code;
                int result = state.result;
                handlerCourse.start();
                for (int k = 0; k < MOST_BEATS && handlerCourse.goesOn(code); k++) {
                    beat(code, handlerCourse);
                }
                state.result = result;
                state.served++;
            }
        }

        /** The handler of the first flag that is up and has one, or -1. */
        private int calledAct() {
            for (int i = 0; i < book.fieldCount; i++) {
                if (book.fields[i].handler >= 0 && state.value[i] != 0) {
                    return book.fields[i].handler;
                }
            }
            return -1;
        }

        /** An instruction, one read of a poll, or one tick of a pause. */
        private void beat(Code code, Course course) {
            int where = code.part(course.at, Code.WHERE);
            switch (code.part(course.at, Code.WHICH)) {
                case Code.READ:
                    course.acc = chip.readRegister(where, true);
                    course.next();
                    break;
                case Code.WRITE:
                    int number = numberToWrite(code, course);
                    state.shadow[where] = number & chip.keptBits[where];
                    chip.writeRegister(where, number);
                    course.next();
                    break;
                case Code.POLL:
                    course.acc = chip.readRegister(where, true);
                    endPollBeat(code, course);
                    break;
                case Code.PAUSE:
                    chip.tick();
                    course.beats++;
                    if (course.beats >= where) {
                        course.next();
                    }
                    break;
                case Code.PICK:
                    pick(where, course.acc);
                    course.next();
                    break;
                default:
                    locked = code.part(course.at, Code.WHICH) == Code.LOCK;
                    course.next();
                    break;
            }
        }

        private int numberToWrite(Code code, Course course) {
            int put = code.part(course.at, Code.BITS);
            int keep = code.part(course.at, Code.MASK);
            switch (code.part(course.at, Code.BY)) {
                case Code.BY_ACC:
                    return put | (keep & course.acc);
                case Code.BY_SHADOW:
                    return put | (keep & state.shadow[code.part(course.at, Code.WHERE)]);
                default:
                    return put;
            }
        }

        private void endPollBeat(Code code, Course course) {
            course.beats++;
            if ((course.acc & code.part(course.at, Code.MASK)) == code.part(course.at, Code.BITS)) {
                course.next();
            } else if (course.beats > code.part(course.at, Code.LIMIT)) {
                course.timedOut = true;
            }
        }

        private void pick(int number, int acc) {
            Field field = book.fields[number];
            if (field.kind == Field.TAKEN) {
                state.result = state.soft[number];
                state.soft[number] = 0;
            } else {
                state.result = field.bitsIn(acc);
            }
        }
    }

    /** Walks an act through each tick at which a flag may come up. */
    private static final class Walker {
        private static final int NO_TIMEOUT = 1, NO_BREAKS = 2, RIGHT_VALUES = 3, SERVED_ONCE = 4;
        private static final int NO_FIELD = -2;

        private final Book book;
        private final State state;
        private final Driver driver;
        private final State start = new State();
        /** What the act and the handler set each field to last, or -1. */
        private final int[] byAct = new int[MOST_FIELDS];
        private final int[] byHandler = new int[MOST_FIELDS];
        /** The rule that the last walk that told a tick found broken there, 0 if there was no such walk. */
        int rule = 0;
        int ruleField = NO_FIELD;

        Walker(Book book, State state, Driver driver) {
            this.book = book;
            this.state = state;
            this.driver = driver;
        }

        void forget() {
            rule = 0;
            ruleField = NO_FIELD;
        }

        void keepStart() {
            start.takeFrom(state);
        }

        void restoreStart() {
            state.takeFrom(start);
        }

        /** The least tick that isn't well, 0 if there is none, or a refusal; it leaves the state of its last run. */
        int firstUnwell(int act, int flag) {
            if (!driver.runAct(act)) {
                return TIMEOUT;
            }
            if (start.eventCount >= MOST_EVENTS) {
                return FULL;
            }
            int ticks = nearestInt(state.now - start.now);
            int served = state.served;
            noteSets(book.acts[act], book.acts[book.fields[flag].handler]);
            for (int t = 1; t <= ticks; t++) {
                restoreStart();
                state.tellEvent(flag, 1, start.now + t);
                boolean ended = driver.runAct(act);
                int broken = brokenRule(ended, served);
                if (broken != 0) {
                    rule = broken;
                    ruleField = broken == RIGHT_VALUES ? wrongField() : NO_FIELD;
                    return t;
                }
            }
            return 0;
        }

        private void noteSets(Act act, Act handler) {
            for (int i = 0; i < book.fieldCount; i++) {
                byAct[i] = act.lastSet(i);
                byHandler[i] = handler.lastSet(i);
            }
        }

        private int brokenRule(boolean ended, int served) {
            if (!ended) {
                return NO_TIMEOUT;
            }
            if (state.breakCount > start.breakCount) {
                return NO_BREAKS;
            }
            if (wrongField() != NO_FIELD) {
                return RIGHT_VALUES;
            }
            return state.served == served + 1 ? 0 : SERVED_ONCE;
        }

        private int wrongField() {
            for (int i = 0; i < book.fieldCount; i++) {
                if (book.fields[i].isKept() && !isRight(i)) {
                    return i;
                }
            }
            return NO_FIELD;
        }

        private boolean isRight(int i) {
            boolean plain = book.fields[i].kind == Field.PLAIN;
            int got = plain ? state.value[i] : state.pending[i];
            if (byAct[i] < 0 && byHandler[i] < 0) {
                return got == (plain ? start.value[i] : start.pending[i]);
            }
            // a number that isn't set is -1, which no field holds
            return got == byAct[i] || got == byHandler[i];
        }
    }

    /** Holds nothing, a row or an image; a row's elements stand in longs, narrowed to their sort. */
    private static final class Tape {
        static final int EMPTY = 0, BYTES = 1, SHORTS = 2, INTS = 3, LONGS = 4, IMAGE = 5;

        int sort = EMPTY;
        private int length = 0;
        final long[] row = new long[MOST_PLACES];
        final State image = new State();
        /** The book's age when the image was made. */
        int age = 0;

        void takeRow(int newSort, int n) {
            sort = newSort;
            length = n;
            Arrays.fill(row, 0L);
        }

        void takeImage(State state, int bookAge) {
            sort = IMAGE;
            image.takeFrom(state);
            age = bookAge;
        }

        boolean holdsRow() {
            return sort >= BYTES && sort <= LONGS;
        }

        boolean hasPlace(int i) {
            return i >= 0 && i < length;
        }

        boolean hasPlaces(int i, int n) {
            return n >= 0 && i >= 0 && n <= length && i <= length - n;
        }

        long narrowed(long v) {
            switch (sort) {
                case BYTES:
                    return (byte) v;
                case SHORTS:
                    return (short) v;
                case INTS:
                    return (int) v;
                default:
                    return v;
            }
        }

        void throwFailure() {
            if (image.breakCount > 0) {
                throw new IllegalStateException("laws were broken");
            }
        }
    }
}
