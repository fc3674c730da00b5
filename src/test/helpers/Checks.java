import java.nio.charset.StandardCharsets;

/** What the tests of the project share: how an answer is weighed, and how an office is fed, asked and compared. */
abstract class Checks {
    static final int IAE = 1;
    static final int IOOBE = 2;
    static final int ISE = 3;
    static final int NONE = RoyaltyOffice.NONE;
    private static final int UNDOS = 5;
    private static final int[] SOME_DAYS = {0, 1, 2, 4, 5, 9, 10, 11, 12, 20, 9998, 9999};
    private static int wrong;

    interface Call {
        Object answer();
    }

    /** A call of an office. */
    interface Act {
        Object on(RoyaltyOffice x);
    }

    /** Makes an office, the same one each time. */
    interface Scene {
        RoyaltyOffice make();
    }

    // ---- answers

    static void due(String what, Object got, Object want) {
        if (!String.valueOf(got).equals(String.valueOf(want))) {
            wrong++;
            System.out.println(what + ": answered " + got + ", due is " + want);
        }
    }

    /** The exception must be of that very class, not of one below it, such as the machine's own. */
    static void refused(String what, int kind, Call call) {
        Class<?> want = kind == IAE ? IllegalArgumentException.class
                : kind == IOOBE ? IndexOutOfBoundsException.class : IllegalStateException.class;
        try {
            due(what + " must throw " + want.getSimpleName(), call.answer(), "an exception");
        } catch (RuntimeException e) {
            due(what, e.getClass().getName(), want.getName());
        }
    }

    /** Tells the outcome, and ends with code 1 if an answer was wrong. */
    static void end(String allIsWell) {
        if (wrong != 0) {
            System.out.println(wrong + " answers are not as due");
            System.exit(1);
        }
        System.out.println(allIsWell);
    }

    // ---- feeding

    private static int four(byte[] bytes, int i) {
        int n = 0;
        for (int k = 0; k < 4; k++) {
            n = n << 8 | (i + k < bytes.length ? bytes[i + k] & 255 : 0);
        }
        return n;
    }

    static void feed(RoyaltyOffice x, String text) {
        byte[] b = text.getBytes(StandardCharsets.ISO_8859_1);
        int length = 0;
        for (int i = 0; i < b.length; i += 20) {
            length = x.feed(four(b, i), four(b, i + 4), four(b, i + 8), four(b, i + 12), four(b, i + 16));
        }
        x.truncate(length - (20 - b.length % 20) % 20);
    }

    static int amend(RoyaltyOffice x, String text) {
        feed(x, text);
        return x.amend();
    }

    static int script(RoyaltyOffice x, String text) {
        feed(x, text);
        return x.runScript();
    }

    static RoyaltyOffice office(String text) {
        RoyaltyOffice x = new RoyaltyOffice();
        feed(x, text);
        x.readText();
        return x;
    }

    /** Reads a text by readText() as far as a buffer holds whole statements, and the rest by amend(). */
    static RoyaltyOffice longOffice(String text) {
        RoyaltyOffice x = new RoyaltyOffice();
        String rest = text;
        for (boolean first = true; first || !rest.isEmpty(); first = false) {
            int cut = rest.length() <= 900 ? rest.length() : rest.lastIndexOf(';', 899) + 1;
            feed(x, rest.substring(0, cut));
            rest = rest.substring(cut);
            if (first) {
                x.readText();
            } else {
                x.amend();
            }
        }
        return x;
    }

    /** A text so many times, with the letters a, b, c and so on in place of each sign #. */
    static String many(String what, int from, int to) {
        StringBuilder text = new StringBuilder();
        for (int i = from; i < to; i++) {
            text.append(what.replace('#', (char) ('a' + i)));
        }
        return text.toString();
    }

    // ---- offices that many tests begin with

    static final String PEOPLE = "payee anna;payee bob least 500;payee cy;";
    static final String TEXT = PEOPLE + "work song by anna 60 bob 40;\ncover rock of song 20 by bob 100;\n"
            + "work mix by anna 34 bob 33 cy 33;sample rock in mix 50;split song from 10 by cy 100;"
            + "assign anna in song to cy 25 from 0 until 10;advance cy 100 to anna rate 50;"
            + "advance cy 30 to anna rate 100 on song;";

    /**
     * An office on day 4, with something of each kind: 3 payees, 3 works, 2 assignments, 2 advances, 2 statements,
     * 3 lines of the latest income, five calls that can be undone, an error, a report and a saved office.
     */
    static RoyaltyOffice bare() {
        RoyaltyOffice x = office(TEXT);
        amend(x, "assign bob in rock to cy 40 from 6 until 20;split song from 12 by bob 1 cy 99;");
        x.pass(3);
        x.income(2, 401);
        x.close();
        x.save();
        x.pass(1);
        x.setLeast(1, 9);
        x.close();
        x.income(0, 77);
        feed(x, "payee zed;work new by zed 99;");
        try {
            x.amend();
        } catch (IllegalArgumentException wanted) {
            x.report();
        }
        return x;
    }

    /** The same office, with 18 bytes in its buffer. */
    static RoyaltyOffice rich() {
        RoyaltyOffice x = bare();
        feed(x, "payee zed least 7;");
        return x;
    }

    /** As much as an office can hold: 10 payees, 12 works, each with 4 splits of 4 shares, 16 assignments, 12 advances. */
    static RoyaltyOffice full() {
        StringBuilder text = new StringBuilder(many("payee payee##;", 0, 10));
        text.append(many("work w# by payeeaa 25 payeebb 25 payeecc 25 payeejj 25;", 0, 12));
        for (int split = 1; split <= 3; split++) {
            text.append(many("split w# from " + split * 3333 + " by payeejj 97 payeeaa 1 payeebb 1 payeecc 1;", 0, 12));
        }
        text.append(many("sample w# in wl 30;", 0, 3)).append(many("sample w# in wk 1;", 7, 10));
        text.append(many("assign payeejj in wl to payeeaa 6 from 0 until 9999;", 0, 16));
        text.append(many("advance payeeaa 999999 to payeejj rate 100;", 0, 12));
        return longOffice(text.toString());
    }

    // ---- asking

    static String error(RoyaltyOffice x) {
        return x.errorCode() + " " + x.errorPosition() + " " + x.why();
    }

    static String report(RoyaltyOffice x, boolean ofLines) {
        int length = ofLines ? x.reportLines() : x.report();
        StringBuilder text = new StringBuilder();
        for (int i = 0; i < length; i++) {
            text.append((char) x.reportByte(i));
        }
        return text.toString();
    }

    /** The latest report as it stands, up to the first byte that is refused. */
    static String latestReport(RoyaltyOffice x) {
        StringBuilder text = new StringBuilder();
        try {
            for (int i = 0; i < 400; i++) {
                text.append((char) x.reportByte(i));
            }
        } catch (IndexOutOfBoundsException e) {
            text.append("$");
        }
        return text.toString();
    }

    static String lines(RoyaltyOffice x) {
        StringBuilder text = new StringBuilder();
        for (int i = 0; i < x.lines(); i++) {
            text.append(x.line(i, 0)).append(':').append(x.line(i, 1)).append(':').append(x.line(i, 2)).append(':')
                    .append(x.line(i, 3)).append(' ');
        }
        return text.toString().trim();
    }

    /** How many bytes are in the buffer; it is changed by the question. */
    static int buffered(RoyaltyOffice x) {
        try {
            return x.feed(0, 0, 0, 0, 0) - 20;
        } catch (IllegalStateException full) {
            for (int n = 900; n > 880; n--) {
                try {
                    return x.truncate(n);
                } catch (IllegalArgumentException tooLong) {
                    continue;
                }
            }
            return NONE;
        }
    }

    /** What the office tells of itself, but for its error, its buffer and its report. */
    static String state(RoyaltyOffice x) {
        StringBuilder text = new StringBuilder();
        for (int what = 0; what < 7; what++) {
            text.append(x.count(what)).append(' ');
        }
        for (int p = 0; p < x.count(0); p++) {
            statePayee(x, p, text);
        }
        for (int i = 0; i < x.count(5); i++) {
            text.append("| on ").append(x.statementDay(i));
        }
        for (int w = 0; w < x.count(1); w++) {
            stateWork(x, w, text);
        }
        for (int a = 0; a < x.count(2); a++) {
            for (int what = 0; what < 7; what++) {
                text.append(what == 0 ? "| right " : " ").append(x.assignment(a, what));
            }
        }
        for (int a = 0; a < x.count(3); a++) {
            for (int what = 0; what < 6; what++) {
                text.append(what == 0 ? "| debt " : " ").append(x.advance(a, what));
            }
        }
        text.append("| ").append(x.nextReversion()).append(' ').append(x.dearestWork()).append(' ').append(x.richest());
        return text.append(' ').append(x.payable()).append("| ").append(lines(x)).toString();
    }

    private static void statePayee(RoyaltyOffice x, int p, StringBuilder text) {
        text.append("| payee ").append(x.least(p)).append(' ').append(x.balance(p)).append(' ').append(x.owed(p));
        text.append(' ').append(x.firstOpen(p)).append(' ').append(x.part(p));
        for (int what = 0; what < 4; what++) {
            text.append(' ').append(x.total(p, what));
        }
        for (int what = 0; what < 3; what++) {
            text.append(' ').append(x.current(p, what));
        }
        for (int w = 0; w < x.count(1); w++) {
            text.append(' ').append(x.earnedFrom(p, w)).append(' ').append(x.left(w, p));
        }
        for (int i = 0; i < x.count(5); i++) {
            for (int what = 0; what < 5; what++) {
                text.append(' ').append(x.statement(i, p, what));
            }
        }
    }

    private static void stateWork(RoyaltyOffice x, int w, StringBuilder text) {
        text.append("| work ").append(x.came(w)).append(' ').append(x.roots(w)).append(' ').append(x.offspring(w));
        text.append(' ').append(x.owners(w)).append(' ').append(x.splits(w));
        for (int day : SOME_DAYS) {
            text.append(' ').append(x.splitOn(w, day));
        }
        for (int split = 0; split < x.splits(w); split++) {
            for (int p = 0; p < x.count(0); p++) {
                text.append(' ').append(x.share(w, split, p));
            }
        }
        for (int i = 0; i < x.sources(w); i++) {
            text.append(' ').append(x.source(w, i, 0)).append(' ').append(x.source(w, i, 1));
        }
    }

    // ---- comparing

    /**
     * All that can be learned of the offices of a scene. Each question beyond state() gets an office of its
     * own, because some change it, and because nothing is promised about an object after its 512th call.
     */
    static String everything(Scene scene) {
        RoyaltyOffice x = scene.make();
        StringBuilder text = new StringBuilder("error " + error(x) + "\nreport " + latestReport(x));
        text.append("\nbuffered ").append(buffered(scene.make()));
        x = scene.make();
        try {
            text.append("\namended ").append(x.amend());
        } catch (IllegalArgumentException e) {
            text.append("\nnot amended");
        }
        return text.append(' ').append(error(x)).append(' ').append(state(x)).append(officeOnly(scene)).toString();
    }

    /** All but the error and the buffer: what a text with an error must leave as it is. */
    static String butErrorAndBuffer(Scene scene) {
        return latestReport(scene.make()) + officeOnly(scene);
    }

    private static String officeOnly(Scene scene) {
        RoyaltyOffice x = scene.make();
        StringBuilder text = new StringBuilder("\nstate " + state(x));
        text.append("\nnames ").append(report(scene.make(), false));
        text.append("\nnames ").append(report(scene.make(), true));
        for (int times = 1; times <= UNDOS + 1; times++) {
            x = scene.make();
            text.append("\nundone");
            for (int k = 0; k < times; k++) {
                text.append(' ').append(x.undo());
            }
            text.append(' ').append(state(x));
        }
        x = scene.make();
        try {
            text.append("\nrestored ").append(x.restore());
        } catch (IllegalStateException e) {
            text.append("\nnot restored");
        }
        return text.append(' ').append(x.undo()).append(' ').append(state(x)).toString();
    }

    /** A scene after one more call, whatever it answers or throws. */
    static Scene after(Scene scene, Act act) {
        return () -> {
            RoyaltyOffice x = scene.make();
            try {
                act.on(x);
            } catch (RuntimeException e) {
                return x;
            }
            return x;
        };
    }

    static void changesNothing(String what, Scene scene, Act act) {
        due(what + " changes nothing", everything(after(scene, act)), everything(scene));
    }

    static void refusedWithoutChange(String what, int kind, Scene scene, Act act) {
        refused(what, kind, () -> act.on(scene.make()));
        changesNothing(what, scene, act);
    }
}
