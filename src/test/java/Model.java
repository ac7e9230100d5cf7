import java.util.ArrayList;
import java.util.Arrays;
import java.util.List;
import java.util.TreeMap;
import java.util.TreeSet;

/** A second, slow telling of the document, to hold DriverBook's answers against. It uses nothing of DriverBook. */
final class Model {
    record Field(int register, int low, int width, int kind, int reset) {
        int max() {
            return (1 << width) - 1;
        }

        int placed(int v) {
            return v << low;
        }

        int cut(int number) {
            return number >> low & max();
        }
    }

    record Law(int kind, int f, int g, int v) { }

    record Step(int kind, int field, int v, int limit) { }

    record Event(int field, int v, int tick) { }

    /** Which, its register, by, keep or mask, put or value, limit. */
    record Op(int which, int place, int by, int mask, int bits, int limit) { }

    static final class World {
        TreeMap<Integer, Integer> values = new TreeMap<>();
        TreeMap<Integer, Integer> pending = new TreeMap<>();
        TreeMap<Integer, Integer> timers = new TreeMap<>();
        TreeMap<Integer, Integer> softs = new TreeMap<>();
        TreeMap<Integer, Integer> shadows = new TreeMap<>();
        TreeMap<Integer, Integer> hits = new TreeMap<>();
        List<Event> events = new ArrayList<>();
        List<int[]> breaks = new ArrayList<>();
        int now, result, served;

        World twin() {
            World w = new World();
            w.values.putAll(values);
            w.pending.putAll(pending);
            w.timers.putAll(timers);
            w.softs.putAll(softs);
            w.shadows.putAll(shadows);
            w.hits.putAll(hits);
            w.events.addAll(events);
            w.breaks.addAll(breaks);
            w.now = now;
            w.result = result;
            w.served = served;
            return w;
        }
    }

    private static final class TimeoutSignal extends Exception {
        private static final long serialVersionUID = 1L;
    }

    int registers = 4;
    List<Field> fields = new ArrayList<>();
    List<Law> laws = new ArrayList<>();
    List<List<Step>> acts = new ArrayList<>();
    TreeMap<Integer, Integer> handlers = new TreeMap<>();
    TreeMap<Integer, Integer> periods = new TreeMap<>();
    TreeMap<Integer, Integer> dones = new TreeMap<>();
    boolean locks = true;
    World w = new World();
    Object[] tapes = new Object[6];
    Object[] imageOf = new Object[6];
    Object bookMark = new Object();
    int host;
    int[] why;
    private boolean locked;

    private boolean isField(int f) {
        return 0 <= f && f < fields.size();
    }

    private boolean isAct(int a) {
        return 0 <= a && a < acts.size();
    }

    private boolean isRegister(int r) {
        return 0 <= r && r < registers;
    }

    private static boolean within(long v, long least, long most) {
        return least <= v && v <= most;
    }

    private int kindOf(int f) {
        return fields.get(f).kind;
    }

    private void powerOn() {
        w = new World();
        for (int r = 0; r < 8; r++) {
            w.shadows.put(r, 0);
        }
        for (int i = 0; i < fields.size(); i++) {
            Field f = fields.get(i);
            w.values.put(i, f.reset);
            w.pending.put(i, f.reset);
            w.timers.put(i, 0);
            w.softs.put(i, 0);
            if (f.kind == 0 || f.kind == 5) {
                w.shadows.merge(f.register, f.placed(f.reset), Integer::sum);
            }
        }
    }

    Model() {
        powerOn();
    }

    int begin(int n) {
        if (!within(n, 1, 8)) {
            return -1;
        }
        registers = n;
        fields.clear();
        laws.clear();
        acts.clear();
        handlers.clear();
        periods.clear();
        dones.clear();
        locks = true;
        host = 0;
        why = null;
        bookMark = new Object();
        powerOn();
        return n;
    }

    int field(int register, int low, int width, int kind, int reset) {
        if (!isRegister(register) || !within(kind, 0, 6) || low < 0 || !within(width, 1, 8)
                || (long) low + width > 16 || !within(reset, 0, (1 << width) - 1)
                || (reset != 0 && (kind == 4 || kind == 6))) {
            return -1;
        }
        for (Field f : fields) {
            if (f.register == register && low < f.low + f.width && f.low < low + width) {
                return -2;
            }
        }
        if (fields.size() == 24) {
            return -3;
        }
        fields.add(new Field(register, low, width, kind, reset));
        if (kind == 4) {
            periods.put(fields.size() - 1, 3);
        }
        bookMark = new Object();
        powerOn();
        return fields.size() - 1;
    }

    int period(int f, int ticks) {
        if (!isField(f) || !within(ticks, 1, 9)) {
            return -1;
        }
        if (kindOf(f) != 4) {
            return -4;
        }
        bookMark = new Object();
        powerOn();
        return periods.put(f, ticks);
    }

    int done(int f, int other) {
        if (!isField(f) || !(other == -1 || isField(other))) {
            return -1;
        }
        if (kindOf(f) != 4 || !(other == -1 || kindOf(other) == 1 || kindOf(other) == 2)) {
            return -4;
        }
        bookMark = new Object();
        powerOn();
        Integer had = dones.remove(f);
        if (other != -1) {
            dones.put(f, other);
        }
        return had == null ? -1 : had;
    }

    int law(int kind, int f, int g, int v) {
        if (!within(kind, 0, 2) || !isField(f) || !isField(g) || !within(v, 0, 255)) {
            return -1;
        }
        if (laws.size() == 12) {
            return -3;
        }
        laws.add(new Law(kind, f, g, v));
        return laws.size() - 1;
    }

    int act() {
        if (acts.size() == 6) {
            return -3;
        }
        acts.add(new ArrayList<>());
        return acts.size() - 1;
    }

    int step(int act, int kind, int f, int v, int limit) {
        if (!isAct(act) || !within(kind, 0, 3)) {
            return -1;
        }
        if (kind == 3) {
            if (f != -1 || !within(v, 1, 9) || limit != 0) {
                return -1;
            }
        } else {
            if (!isField(f)) {
                return -1;
            }
            if (!within(v, 0, kind == 2 ? 0 : fields.get(f).max()) || !within(limit, 0, kind == 1 ? 20 : 0)) {
                return -1;
            }
            int k = kindOf(f);
            if ((kind == 0 && (k == 1 || k == 3)) || (kind == 1 && k == 3)) {
                return -4;
            }
        }
        if (acts.get(act).size() == 12) {
            return -3;
        }
        acts.get(act).add(new Step(kind, f, v, limit));
        return acts.get(act).size();
    }

    int bare(int act) {
        if (!isAct(act)) {
            return -1;
        }
        int had = acts.get(act).size();
        acts.get(act).clear();
        return had;
    }

    int handler(int f, int act) {
        if (!isField(f) || !(act == -1 || isAct(act))) {
            return -1;
        }
        if (kindOf(f) != 2) {
            return -4;
        }
        Integer had = handlers.remove(f);
        if (act != -1) {
            handlers.put(f, act);
        }
        return had == null ? -1 : had;
    }

    int locks(int on) {
        if (!within(on, 0, 1)) {
            return -1;
        }
        int had = locks ? 1 : 0;
        locks = on == 1;
        return had;
    }

    private List<Op> codeOf(int act) {
        List<Op> ops = new ArrayList<>();
        List<Step> steps = acts.get(act);
        int i = 0;
        while (i < steps.size()) {
            Step s = steps.get(i);
            if (s.kind == 0) {
                List<Step> group = new ArrayList<>();
                group.add(s);
                int k = i + 1;
                while (k < steps.size() && mayJoin(group, steps.get(k))) {
                    group.add(steps.get(k));
                    k++;
                }
                writeGroup(ops, group);
                i = k;
                continue;
            }
            if (s.kind == 3) {
                ops.add(new Op(3, s.v, -2, -2, -2, -2));
            } else {
                Field f = fields.get(s.field);
                if (s.kind == 1) {
                    ops.add(new Op(2, f.register, -2, f.placed(f.max()), f.placed(s.v), s.limit));
                } else {
                    ops.add(new Op(0, f.register, -2, -2, -2, -2));
                    ops.add(new Op(4, s.field, -2, -2, -2, -2));
                }
            }
            i++;
        }
        return ops;
    }

    private boolean mayJoin(List<Step> group, Step s) {
        if (s.kind != 0 || fields.get(s.field).register != fields.get(group.get(0).field).register) {
            return false;
        }
        for (Step member : group) {
            if (member.field == s.field) {
                return false;
            }
            for (Law l : laws) {
                if ((l.f == s.field && l.g == member.field) || (l.g == s.field && l.f == member.field)) {
                    return false;
                }
            }
        }
        return true;
    }

    private void writeGroup(List<Op> ops, List<Step> group) {
        int r = fields.get(group.get(0).field).register;
        TreeSet<Integer> in = new TreeSet<>();
        int put = 0;
        for (Step s : group) {
            in.add(s.field);
            put += fields.get(s.field).placed(s.v);
        }
        boolean shadowed = false;
        for (Field f : fields) {
            shadowed |= f.register == r && (f.kind == 3 || f.kind == 5);
        }
        int keep = 0;
        for (int i = 0; i < fields.size(); i++) {
            Field f = fields.get(i);
            if (f.register == r && !in.contains(i) && (f.kind == 0 || (shadowed && f.kind == 5))) {
                keep += f.placed(f.max());
            }
        }
        if (keep == 0) {
            ops.add(new Op(1, r, 0, 0, put, -2));
        } else if (shadowed) {
            ops.add(new Op(1, r, 2, keep, put, -2));
        } else {
            boolean guard = locks && !handlers.isEmpty();
            if (guard) {
                ops.add(new Op(5, -2, -2, -2, -2, -2));
            }
            ops.add(new Op(0, r, -2, -2, -2, -2));
            ops.add(new Op(1, r, 1, keep, put, -2));
            if (guard) {
                ops.add(new Op(6, -2, -2, -2, -2, -2));
            }
        }
    }

    int code(int act) {
        return isAct(act) ? codeOf(act).size() : -1;
    }

    int op(int act, int i, int what) {
        if (!isAct(act) || !within(i, 0, codeOf(act).size() - 1) || !within(what, 0, 5)) {
            return -1;
        }
        Op o = codeOf(act).get(i);
        return new int[] {o.which, o.place, o.by, o.mask, o.bits, o.limit}[what];
    }

    int same(int act, int other) {
        if (!isAct(act) || !isAct(other)) {
            return -1;
        }
        return codeOf(act).equals(codeOf(other)) ? 1 : 0;
    }

    int power() {
        powerOn();
        return fields.size();
    }

    int event(int f, int v, int tick) {
        if (!isField(f) || !within(v, 0, fields.get(f).max()) || tick > 9999) {
            return -1;
        }
        if (!within(kindOf(f), 1, 3)) {
            return -4;
        }
        if (tick <= w.now) {
            return -6;
        }
        if (w.events.size() == 16) {
            return -3;
        }
        w.events.add(new Event(f, v, tick));
        return w.events.size();
    }

    private void tick() {
        w.now++;
        for (int i = 0; i < fields.size(); i++) {
            if (kindOf(i) == 4 && w.timers.get(i) > 0) {
                w.timers.merge(i, -1, Integer::sum);
                if (w.timers.get(i) == 0) {
                    w.values.put(i, 0);
                    Integer d = dones.get(i);
                    if (d != null) {
                        w.values.put(d, fields.get(d).max());
                    }
                }
            }
        }
        for (Event e : w.events) {
            if (e.tick == w.now) {
                w.values.put(e.field, kindOf(e.field) == 1 ? e.v : w.values.get(e.field) | e.v);
            }
        }
        w.events.removeIf(e -> e.tick == w.now);
    }

    private int readNow(int r, boolean byDriver) {
        int number = 0;
        for (int i = 0; i < fields.size(); i++) {
            Field f = fields.get(i);
            if (f.register == r && f.kind != 6) {
                number += f.placed(w.values.get(i));
            }
            if (f.register == r && f.kind == 3) {
                if (byDriver) {
                    w.softs.put(i, w.softs.get(i) | w.values.get(i));
                }
                w.values.put(i, 0);
            }
        }
        tick();
        return number;
    }

    private void writeNow(int r, int number) {
        TreeSet<Integer> hit = new TreeSet<>();
        for (int i = 0; i < fields.size(); i++) {
            Field f = fields.get(i);
            int b = f.cut(number);
            if (f.register == r) {
                boolean is = f.kind == 0 ? b != w.values.get(i) : f.kind == 5 ? b != w.pending.get(i)
                        : f.kind != 1 && f.kind != 3 && b != 0;
                if (is) {
                    hit.add(i);
                }
            }
        }
        for (int k = 0; k < laws.size(); k++) {
            Law l = laws.get(k);
            if (hit.contains(l.f)) {
                boolean is = l.kind == 0 ? w.values.get(l.g) == l.v : l.kind == 1 ? w.values.get(l.g) != l.v
                        : w.hits.containsKey(l.g) && w.now - w.hits.get(l.g) < l.v;
                if (is) {
                    w.breaks.add(new int[] {k, w.now});
                }
            }
        }
        for (int i : hit) {
            w.hits.put(i, w.now);
        }
        for (int i = 0; i < fields.size(); i++) {
            Field f = fields.get(i);
            if (f.register != r) {
                continue;
            }
            int b = f.cut(number);
            if (f.kind == 0) {
                w.values.put(i, b);
            } else if (f.kind == 2) {
                w.values.put(i, w.values.get(i) & (f.max() - b));
            } else if (f.kind == 4 && b != 0) {
                w.values.put(i, b);
                w.timers.put(i, periods.get(i));
            } else if (f.kind == 5) {
                w.pending.put(i, b);
            } else if (f.kind == 6 && b != 0) {
                for (int h = 0; h < fields.size(); h++) {
                    if (kindOf(h) == 5) {
                        w.values.put(h, w.pending.get(h));
                    }
                }
            }
        }
        tick();
    }

    private void lookForHandlers(boolean inHandler) {
        if (inHandler) {
            return;
        }
        for (int times = 1; times <= 8; times++) {
            if (locked) {
                return;
            }
            Integer flag = null;
            for (int f : handlers.keySet()) {
                if (w.values.get(f) != 0) {
                    flag = f;
                    break;
                }
            }
            if (flag == null) {
                return;
            }
            int result = w.result;
            try {
                perform(codeOf(handlers.get(flag)), true);
            } catch (TimeoutSignal s) {
                // a handler that ends by it is served all the same
            }
            w.result = result;
            w.served++;
        }
    }

    private void perform(List<Op> ops, boolean inHandler) throws TimeoutSignal {
        int acc = 0;
        for (Op o : ops) {
            lookForHandlers(inHandler);
            switch (o.which) {
                case 0 -> acc = readNow(o.place, true);
                case 1 -> {
                    int from = o.by == 1 ? acc : o.by == 2 ? w.shadows.get(o.place) : 0;
                    int number = o.bits + (o.mask & from);
                    int kept = 0;
                    for (Field f : fields) {
                        if (f.register == o.place && (f.kind == 0 || f.kind == 5)) {
                            kept += f.placed(f.cut(number));
                        }
                    }
                    w.shadows.put(o.place, kept);
                    writeNow(o.place, number);
                }
                case 2 -> {
                    boolean found = false;
                    for (int reads = 0; reads <= o.limit && !found; reads++) {
                        if (reads > 0) {
                            lookForHandlers(inHandler);
                        }
                        acc = readNow(o.place, true);
                        found = (acc & o.mask) == o.bits;
                    }
                    if (!found) {
                        throw new TimeoutSignal();
                    }
                }
                case 3 -> {
                    tick();
                    for (int more = 1; more < o.place; more++) {
                        lookForHandlers(inHandler);
                        tick();
                    }
                }
                case 4 -> {
                    if (kindOf(o.place) == 3) {
                        w.result = w.softs.put(o.place, 0);
                    } else {
                        w.result = fields.get(o.place).cut(acc);
                    }
                }
                case 5 -> locked = true;
                default -> locked = false;
            }
        }
    }

    private boolean runWhole(int act) {
        boolean well = true;
        locked = false;
        try {
            perform(codeOf(act), false);
        } catch (TimeoutSignal s) {
            well = false;
            locked = false;
        }
        lookForHandlers(false);
        return well;
    }

    int run(int act) {
        if (!isAct(act)) {
            return -1;
        }
        int before = w.now;
        return runWhole(act) ? w.now - before : -5;
    }

    int read(int r) {
        return isRegister(r) ? readNow(r, false) : -1;
    }

    int write(int r, int number) {
        if (!isRegister(r) || !within(number, 0, 65535)) {
            return -1;
        }
        writeNow(r, number);
        return w.now;
    }

    int waitFor(int n) {
        if (!within(n, 0, 50)) {
            return -1;
        }
        for (int i = 0; i < n; i++) {
            tick();
        }
        return w.now;
    }

    int peek(int f, int what) {
        if (!isField(f) || !within(what, 0, 3)) {
            return -1;
        }
        if (what == 0) {
            return w.values.get(f);
        }
        int[] wanted = {-1, 5, 4, 3};
        if (kindOf(f) != wanted[what]) {
            return -4;
        }
        return what == 1 ? w.pending.get(f) : what == 2 ? w.timers.get(f) : w.softs.get(f);
    }

    int shadow(int r) {
        return isRegister(r) ? w.shadows.get(r) : -1;
    }

    int result() {
        return w.result;
    }

    int breaks(int what) {
        if (what == 0) {
            return w.breaks.size();
        }
        return within(what, 1, 2) && !w.breaks.isEmpty() ? w.breaks.get(0)[what - 1] : -1;
    }

    private static Integer lastSet(List<Step> steps, int f) {
        Integer v = null;
        for (Step s : steps) {
            if (s.kind == 0 && s.field == f) {
                v = s.v;
            }
        }
        return v;
    }

    int walk(int act, int f) {
        if (!isAct(act) || !isField(f)) {
            return -1;
        }
        if (kindOf(f) != 2 || !handlers.containsKey(f)) {
            return -4;
        }
        World state = w;
        try {
            w = state.twin();
            if (!runWhole(act)) {
                return -5;
            }
            if (state.events.size() == 16) {
                return -3;
            }
            int ticks = w.now - state.now;
            int served = w.served;
            for (int t = 1; t <= ticks; t++) {
                w = state.twin();
                w.events.add(new Event(f, 1, state.now + t));
                int[] unwell = judge(runWhole(act), state, acts.get(act), acts.get(handlers.get(f)), served);
                if (unwell != null) {
                    why = unwell;
                    return t;
                }
            }
            return 0;
        } finally {
            w = state;
        }
    }

    private int[] judge(boolean ended, World state, List<Step> act, List<Step> handler, int served) {
        if (!ended) {
            return new int[] {1, -2};
        }
        if (w.breaks.size() > state.breaks.size()) {
            return new int[] {2, -2};
        }
        for (int i = 0; i < fields.size(); i++) {
            if (kindOf(i) != 0 && kindOf(i) != 5) {
                continue;
            }
            Integer a = lastSet(act, i);
            Integer h = lastSet(handler, i);
            Integer is = kindOf(i) == 0 ? w.values.get(i) : w.pending.get(i);
            Integer was = kindOf(i) == 0 ? state.values.get(i) : state.pending.get(i);
            boolean well = a == null && h == null ? is.equals(was) : is.equals(a) || is.equals(h);
            if (!well) {
                return new int[] {3, i};
            }
        }
        return w.served == served + 1 ? null : new int[] {4, -2};
    }

    int why(int what) {
        return why != null && within(what, 0, 1) ? why[what] : -1;
    }

    private int refused(int answer) {
        host++;
        return answer;
    }

    private static Object rowOf(int sort, int n) {
        return sort == 1 ? new byte[n] : sort == 2 ? new short[n] : sort == 3 ? new int[n] : new long[n];
    }

    int tape(int d, int sort, int n) {
        if (!within(d, 0, 5) || !within(sort, 1, 4) || n > 64) {
            return -1;
        }
        if (n < 0) {
            return refused(-14);
        }
        tapes[d] = rowOf(sort, n);
        return n;
    }

    int image(int d) {
        if (!within(d, 0, 5)) {
            return -1;
        }
        tapes[d] = w.twin();
        imageOf[d] = bookMark;
        return w.now;
    }

    private int noImage(int d) {
        return tapes[d] == null ? -11 : tapes[d] instanceof World ? 0 : -12;
    }

    int back(int d) {
        if (!within(d, 0, 5)) {
            return -1;
        }
        if (noImage(d) != 0) {
            return refused(noImage(d));
        }
        if (imageOf[d] != bookMark) {
            return -7;
        }
        w = ((World) tapes[d]).twin();
        return w.now;
    }

    int toss(int d) {
        if (!within(d, 0, 5)) {
            return -1;
        }
        if (noImage(d) != 0) {
            return refused(noImage(d));
        }
        int n = ((World) tapes[d]).breaks.size();
        return n == 0 ? refused(-15) : n;
    }

    int play(int d, int i, int n) {
        if (!within(d, 0, 5) || !within(n, 0, 64)) {
            return -1;
        }
        if (tapes[d] == null) {
            return refused(-11);
        }
        if (!(tapes[d] instanceof int[] row)) {
            return refused(-12);
        }
        int ran = 0;
        for (long place = i; place < (long) i + n; place++) {
            if (place < 0 || place >= row.length) {
                return refused(-13);
            }
            if (run(row[(int) place]) < 0) {
                return ran;
            }
            ran++;
        }
        return ran;
    }

    private int sortOf(int d) {
        Object o = tapes[d];
        return o == null ? 0 : o instanceof byte[] ? 1 : o instanceof short[] ? 2 : o instanceof int[] ? 3
                : o instanceof long[] ? 4 : 5;
    }

    int clear(int d) {
        if (!within(d, 0, 5)) {
            return -1;
        }
        int held = sortOf(d);
        tapes[d] = null;
        return held;
    }

    int put(int d, int i, long v) {
        if (!within(d, 0, 5)) {
            return -1;
        }
        int sort = sortOf(d);
        if (sort == 0 || sort == 5) {
            return refused(sort == 0 ? -11 : -12);
        }
        if (!within(i, 0, java.lang.reflect.Array.getLength(tapes[d]) - 1)) {
            return refused(-13);
        }
        switch (sort) {
            case 1 -> ((byte[]) tapes[d])[i] = (byte) v;
            case 2 -> ((short[]) tapes[d])[i] = (short) v;
            case 3 -> ((int[]) tapes[d])[i] = (int) v;
            default -> ((long[]) tapes[d])[i] = v;
        }
        return 1;
    }

    long at(int d, int i) {
        if (!within(d, 0, 5)) {
            throw new IllegalArgumentException();
        }
        if (!within(sortOf(d), 1, 4) || !within(i, 0, java.lang.reflect.Array.getLength(tapes[d]) - 1)) {
            throw new IllegalStateException();
        }
        return java.lang.reflect.Array.getLong(tapes[d], i);
    }

    int copy(int d, int i, int e, int j, int n) {
        if (!within(d, 0, 5) || !within(e, 0, 5)) {
            return -1;
        }
        if (tapes[d] == null || tapes[e] == null) {
            return refused(-11);
        }
        if (sortOf(d) == 5 || sortOf(d) != sortOf(e)) {
            return refused(-12);
        }
        int from = java.lang.reflect.Array.getLength(tapes[d]);
        int to = java.lang.reflect.Array.getLength(tapes[e]);
        if (n < 0 || i < 0 || j < 0 || (long) i + n > from || (long) j + n > to) {
            return refused(-13);
        }
        long[] were = new long[n];
        for (int k = 0; k < n; k++) {
            were[k] = at(d, i + k);
        }
        for (int k = 0; k < n; k++) {
            put(e, j + k, were[k]);
        }
        return n;
    }

    int count(int what) {
        int[] all = {registers, fields.size(), laws.size(), acts.size(), w.now, w.served, w.events.size(),
            locks ? 1 : 0, host};
        return within(what, 0, all.length - 1) ? all[what] : -1;
    }

    /** All that can be told of the model, as a text. */
    String whole() {
        StringBuilder s = new StringBuilder();
        s.append(registers).append(fields).append(laws).append(acts).append(handlers).append(periods).append(dones)
                .append(locks).append(w.values).append(w.pending).append(w.timers).append(w.softs).append(w.shadows)
                .append(w.hits).append(w.events).append(w.now).append(' ').append(w.result).append(' ').append(w.served)
                .append(Arrays.deepToString(w.breaks.toArray())).append(Arrays.toString(why));
        for (int d = 0; d < 6; d++) {
            s.append(sortOf(d)).append(sortOf(d) == 5 ? "" : Arrays.deepToString(new Object[] {tapes[d]}));
        }
        return s.toString();
    }
}
