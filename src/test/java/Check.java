/** Counts what a test finds wrong, prints it, and feeds texts to a ledger. */
final class Check {
    private static final int SHOWN = 20;

    private int checked = 0;
    private int wrong = 0;

    interface Call {
        double answer();
    }

    void is(String what, double due, Call call) {
        outcome(what, String.valueOf(due), outcomeOf(call));
    }

    void refuses(String what, Class<? extends RuntimeException> due, Call call) {
        outcome(what, due.getName(), outcomeOf(call));
    }

    /** Of two long texts only the places where they part are of use. */
    void same(String what, String due, String got) {
        int from = 0;
        while (from < due.length() && from < got.length() && due.charAt(from) == got.charAt(from)) {
            from++;
        }
        outcome(what, around(due, from), around(got, from));
    }

    private static String around(String text, int place) {
        return text.substring(Math.max(0, place - 40), Math.min(text.length(), place + 20)) + "(" + text.length() + ")";
    }

    void illegal(String what, Call call) {
        refuses(what, IllegalArgumentException.class, call);
    }

    void outcome(String what, String due, String got) {
        checked++;
        if (!due.equals(got)) {
            wrong++;
            if (wrong <= SHOWN) {
                System.out.println(what + " answered " + got + ", due is " + due);
            }
        }
    }

    boolean hasFailed() {
        return wrong > 0;
    }

    void finish(String name) {
        System.out.println(name + ": " + checked + " checks, " + wrong + " wrong");
        if (wrong > 0 || checked == 0) {
            System.exit(1);
        }
    }

    static String outcomeOf(Call call) {
        try {
            return String.valueOf(call.answer());
        } catch (RuntimeException thrown) {
            return thrown.getClass().getName();
        }
    }

    /** Puts a text into the buffer of a ledger, which must be empty. */
    static void feed(SalaryCapLedger ledger, String text) {
        for (int start = 0; start < text.length(); start += 20) {
            ledger.append(word(text, start), word(text, start + 4), word(text, start + 8),
                    word(text, start + 12), word(text, start + 16));
        }
        ledger.truncate(text.length());
    }

    static int word(String text, int start) {
        int word = 0;
        for (int k = start; k < start + 4; k++) {
            word = word << 8 | (k < text.length() ? text.charAt(k) & 255 : 0);
        }
        return word;
    }

    /** How often league() calls the ledger that it makes. */
    static int callsOfLeague(String text) {
        return (text.length() + 19) / 20 + 2;
    }

    static SalaryCapLedger league(String text) {
        SalaryCapLedger ledger = new SalaryCapLedger();
        feed(ledger, text);
        int contracts = ledger.load();
        if (contracts < 0) {
            throw new IllegalStateException("load() answered " + contracts + " at " + ledger.errorPosition() + " of " + text);
        }
        return ledger;
    }
}
