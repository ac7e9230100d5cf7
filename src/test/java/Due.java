/** Counts the answers that are not the ones that are due. */
final class Due {
    static final int PLAIN = 0, STATUS = 1, FLAG = 2, TAKEN = 3, PULSE = 4, HELD = 5, LOAD = 6;
    static final int SET = 0, AWAIT = 1, GET = 2, PAUSE = 3;

    private int wrong = 0;
    private int asked = 0;

    void is(String what, long got, long want) {
        asked++;
        if (got != want) {
            wrong++;
            System.out.println(what + " answered " + got + ", due is " + want);
        }
    }

    /** A call as it is written. */
    static String call(String name, long... numbers) {
        StringBuilder text = new StringBuilder(name).append('(');
        for (int k = 0; k < numbers.length; k++) {
            text.append(k == 0 ? "" : ", ").append(numbers[k]);
        }
        return text.append(')').toString();
    }

    /** 0: at() answers, 1: IllegalArgumentException, 2: IllegalStateException. */
    void atThrows(String what, DriverBook x, int d, int i, int want) {
        int got = 0;
        try {
            x.at(d, i);
        } catch (IllegalArgumentException e) {
            got = 1;
        } catch (IllegalStateException e) {
            got = 2;
        }
        is(what, got, want);
    }

    /** Compares all parts of an instruction. */
    void op(String what, DriverBook x, int act, int i, int... parts) {
        for (int k = 0; k < 6; k++) {
            is(what + ": op(" + act + ", " + i + ", " + k + ")", x.op(act, i, k), parts[k]);
        }
    }

    void end(String name) {
        System.out.println(name + ": " + (asked - wrong) + " of " + asked + " answers are as due");
        if (wrong != 0 || asked == 0) {
            System.exit(1);
        }
    }
}
