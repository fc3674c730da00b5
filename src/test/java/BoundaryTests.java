/**
 * The boundary cases of each promise: the last value that is allowed and the first that is not, what is empty
 * and what is full, and what is refused, with the exception that is listed first, and without a change.
 * Those of texts and scripts stand in TextBoundaryTests.
 */
public final class BoundaryTests extends Checks {
    private static final int MIN = Integer.MIN_VALUE;
    private static final int MAX = Integer.MAX_VALUE;
    private static final int GREATEST = 9999999;

    private interface WithArguments {
        Object on(RoyaltyOffice x, int[] a);
    }

    public static void main(String[] args) {
        queryArguments();
        changeArguments();
        emptyOffice();
        p01NewObject();
        p02Feed();
        p03Truncate();
        p04ReadText();
        p05Amend();
        p06RunScript();
        p10Count();
        p11Least();
        p12To15Splits();
        p16To19Sources();
        p20Assignment();
        p21Left();
        p22And23Reversions();
        p24To26Advances();
        p27To30Accounts();
        p31DearestWork();
        p32Part();
        p33Richest();
        p34Payable();
        p35And36Lines();
        p37And38Statements();
        p39Current();
        p40To42WouldBe();
        p43AmountToRecoup();
        p44WouldEarnOn();
        p45BestDay();
        p46Percentages();
        p46Sources();
        p46Assignments();
        p46Advances();
        p46Lines();
        p47Pass();
        p48Revert();
        p49SetLeast();
        p50Close();
        p51And52Reports();
        p53ReportByte();
        p54Undo();
        p54WhatStays();
        p55Save();
        p56Restore();
        calls();
        end("all boundary cases stand");
    }

    // ---- arguments

    /**
     * Each argument at its lowest and its greatest value, just beyond both, and far off; and several beyond,
     * where the exception that is listed first counts. The ranges: the exception, the lowest, the greatest.
     */
    private static void arguments(String what, boolean query, WithArguments call, int[] base, int... ranges) {
        for (int i = 0; i < base.length; i++) {
            int kind = ranges[3 * i];
            int low = ranges[3 * i + 1];
            int high = ranges[3 * i + 2];
            allowed(what, query, call, with(base, i, low));
            allowed(what, query, call, with(base, i, high));
            for (int beyond : new int[] {low - 1, high + 1, MIN, MAX}) {
                refusedArguments(what, kind, call, with(base, i, beyond));
            }
            for (int k = i + 1; k < base.length; k++) {
                int first = kind == IOOBE || ranges[3 * k] == IOOBE ? IOOBE : IAE;
                refusedArguments(what, first, call, with(with(base, i, high + 1), k, ranges[3 * k + 2] + 1));
                refusedArguments(what, first, call, with(with(base, i, low - 1), k, ranges[3 * k + 1] - 1));
            }
        }
    }

    private static int[] with(int[] base, int i, int value) {
        int[] args = base.clone();
        args[i] = value;
        return args;
    }

    private static String told(String what, int[] args) {
        StringBuilder text = new StringBuilder(what).append('(');
        for (int i = 0; i < args.length; i++) {
            text.append(i == 0 ? "" : ", ").append(args[i]);
        }
        return text.append(')').toString();
    }

    private static void allowed(String what, boolean query, WithArguments call, int[] args) {
        try {
            call.on(rich(), args);
        } catch (RuntimeException e) {
            due(told(what, args), e.getClass().getName(), "no exception");
        }
        if (query) {
            changesNothing(told(what, args), Checks::rich, x -> call.on(x, args));
        }
    }

    private static void refusedArguments(String what, int kind, WithArguments call, int[] args) {
        refusedWithoutChange(told(what, args), kind, Checks::rich, x -> call.on(x, args));
    }

    private static int[] at(int... base) {
        return base;
    }

    // Of rich(): 3 payees, 3 works, 2 assignments, 2 advances, 3 lines, 2 statements, day 4.
    private static void queryArguments() {
        arguments("P10 count", true, (x, a) -> x.count(a[0]), at(0), IAE, 0, 6);
        arguments("P11 least", true, (x, a) -> x.least(a[0]), at(0), IOOBE, 0, 2);
        arguments("P12 splits", true, (x, a) -> x.splits(a[0]), at(0), IOOBE, 0, 2);
        arguments("P13 splitOn", true, (x, a) -> x.splitOn(a[0], a[1]), at(0, 0), IOOBE, 0, 2, IAE, 0, 9999);
        arguments("P14 share", true, (x, a) -> x.share(a[0], a[1], a[2]), at(0, 0, 0), IOOBE, 0, 2, IOOBE, 0, 2,
                IOOBE, 0, 2);
        arguments("P15 owners", true, (x, a) -> x.owners(a[0]), at(0), IOOBE, 0, 2);
        arguments("P16 sources", true, (x, a) -> x.sources(a[0]), at(0), IOOBE, 0, 2);
        arguments("P17 source", true, (x, a) -> x.source(a[0], a[1], a[2]), at(1, 0, 0), IOOBE, 1, 2, IOOBE, 0, 0,
                IAE, 0, 1);
        arguments("P18 roots", true, (x, a) -> x.roots(a[0]), at(0), IOOBE, 0, 2);
        arguments("P19 offspring", true, (x, a) -> x.offspring(a[0]), at(0), IOOBE, 0, 2);
        arguments("P20 assignment", true, (x, a) -> x.assignment(a[0], a[1]), at(0, 0), IOOBE, 0, 1, IAE, 0, 6);
        arguments("P21 left", true, (x, a) -> x.left(a[0], a[1]), at(0, 0), IOOBE, 0, 2, IOOBE, 0, 2);
        arguments("P23 revertingWithin", true, (x, a) -> x.revertingWithin(a[0]), at(0), IAE, 0, 9999);
        arguments("P24 advance", true, (x, a) -> x.advance(a[0], a[1]), at(0, 0), IOOBE, 0, 1, IAE, 0, 5);
        arguments("P25 owed", true, (x, a) -> x.owed(a[0]), at(0), IOOBE, 0, 2);
        arguments("P26 firstOpen", true, (x, a) -> x.firstOpen(a[0]), at(0), IOOBE, 0, 2);
        arguments("P27 balance", true, (x, a) -> x.balance(a[0]), at(0), IOOBE, 0, 2);
        arguments("P28 total", true, (x, a) -> x.total(a[0], a[1]), at(0, 0), IOOBE, 0, 2, IAE, 0, 3);
        arguments("P29 earnedFrom", true, (x, a) -> x.earnedFrom(a[0], a[1]), at(0, 0), IOOBE, 0, 2, IOOBE, 0, 2);
        arguments("P30 came", true, (x, a) -> x.came(a[0]), at(0), IOOBE, 0, 2);
        arguments("P32 part", true, (x, a) -> x.part(a[0]), at(0), IOOBE, 0, 2);
        arguments("P36 line", true, (x, a) -> x.line(a[0], a[1]), at(0, 0), IOOBE, 0, 2, IAE, 0, 3);
        arguments("P37 statement", true, (x, a) -> x.statement(a[0], a[1], a[2]), at(0, 0, 0), IOOBE, 0, 1,
                IOOBE, 0, 2, IAE, 0, 4);
        arguments("P38 statementDay", true, (x, a) -> x.statementDay(a[0]), at(0), IOOBE, 0, 1);
        arguments("P39 current", true, (x, a) -> x.current(a[0], a[1]), at(0, 0), IOOBE, 0, 2, IAE, 0, 2);
        arguments("P40 wouldCome", true, (x, a) -> x.wouldCome(a[0], a[1], a[2]), at(0, 1, 0), IOOBE, 0, 2,
                IAE, 1, GREATEST, IOOBE, 0, 2);
        arguments("P41 wouldEarn", true, (x, a) -> x.wouldEarn(a[0], a[1], a[2]), at(0, 1, 0), IOOBE, 0, 2,
                IAE, 1, GREATEST, IOOBE, 0, 2);
        arguments("P42 wouldGrow", true, (x, a) -> x.wouldGrow(a[0], a[1], a[2]), at(0, 1, 0), IOOBE, 0, 2,
                IAE, 1, GREATEST, IOOBE, 0, 2);
        arguments("P43 amountToRecoup", true, (x, a) -> x.amountToRecoup(a[0], a[1], a[2]), at(0, 0, 1), IOOBE, 0, 1,
                IOOBE, 0, 2, IAE, 1, 9999);
        arguments("P44 wouldEarnOn", true, (x, a) -> x.wouldEarnOn(a[0], a[1], a[2], a[3]), at(0, 1, 0, 4),
                IOOBE, 0, 2, IAE, 1, GREATEST, IOOBE, 0, 2, IAE, 4, 9999);
        arguments("P45 bestDay", true, (x, a) -> x.bestDay(a[0], a[1], a[2]), at(0, 1, 0), IOOBE, 0, 2,
                IAE, 1, GREATEST, IOOBE, 0, 2);
        Act[] queries = {x -> x.errorCode(), x -> x.errorPosition(), x -> x.why(), x -> x.nextReversion(),
            x -> x.dearestWork(), x -> x.richest(), x -> x.payable(), x -> x.lines()};
        for (int i = 0; i < queries.length; i++) {
            changesNothing("P7 to P35 question " + i, Checks::rich, queries[i]);
        }
    }

    private static void changeArguments() {
        arguments("P3 truncate", false, (x, a) -> x.truncate(a[0]), at(0), IAE, 0, 18);
        arguments("P46 income", false, (x, a) -> x.income(a[0], a[1]), at(0, 1), IOOBE, 0, 2, IAE, 1, GREATEST);
        arguments("P47 pass", false, (x, a) -> x.pass(a[0]), at(0), IAE, 0, 9995);
        arguments("P48 revert", false, (x, a) -> x.revert(a[0], a[1]), at(0, 8), IOOBE, 0, 1, IAE, 4, 9);
        arguments("P48 revert ahead of its first day", false, (x, a) -> x.revert(a[0], a[1]), at(1, 8), IOOBE, 0, 1,
                IAE, 7, 19);
        arguments("P49 setLeast", false, (x, a) -> x.setLeast(a[0], a[1]), at(0, 0), IOOBE, 0, 2, IAE, 0, 99999);
        arguments("P53 reportByte", true, (x, a) -> x.reportByte(a[0]), at(0), IOOBE, 0, latestReport(rich()).length() - 2);
        // The least that is out of two ranges at once: a work that does not exist, with what a later check would read.
        refusedWithoutChange("P17 no source of a work without sources", IOOBE, Checks::rich, x -> x.source(0, 0, 0));
        refusedWithoutChange("P14 no second split", IOOBE, Checks::rich, x -> x.share(1, 1, 0));
        changesNothing("P3 truncate(18), the present length", Checks::rich, x -> x.truncate(18));
    }

    // Without payees, works, assignments, advances, statements and lines the first number is refused too.
    private static void emptyOffice() {
        Act[] refused = {x -> x.least(0), x -> x.splits(0), x -> x.splitOn(0, -1), x -> x.share(0, 0, 0),
            x -> x.owners(0), x -> x.sources(0), x -> x.source(0, 0, 2), x -> x.roots(0), x -> x.offspring(0),
            x -> x.assignment(0, 7), x -> x.left(0, 0), x -> x.advance(0, 6), x -> x.owed(0), x -> x.firstOpen(0),
            x -> x.balance(0), x -> x.total(0, 4), x -> x.earnedFrom(0, 0), x -> x.came(0), x -> x.part(0),
            x -> x.line(0, 4), x -> x.statement(0, 0, 5), x -> x.statementDay(0), x -> x.current(0, 3),
            x -> x.wouldCome(0, 0, 0), x -> x.wouldEarn(0, 0, 0), x -> x.wouldGrow(0, 0, 0),
            x -> x.amountToRecoup(0, 0, 0), x -> x.wouldEarnOn(0, 0, 0, -1), x -> x.bestDay(0, 0, 0),
            x -> x.income(0, 0), x -> x.revert(0, 0), x -> x.setLeast(0, -1), x -> x.reportByte(0)};
        for (int i = 0; i < refused.length; i++) {
            refusedWithoutChange("P11 to P53 of an empty office, call " + i, IOOBE, RoyaltyOffice::new, refused[i]);
        }
        refusedWithoutChange("P56 of an empty office", ISE, RoyaltyOffice::new, RoyaltyOffice::restore);
        changesNothing("P54 of an empty office", RoyaltyOffice::new, RoyaltyOffice::undo);
        Scene people = () -> office("payee a;");
        refusedWithoutChange("P21 no work", IOOBE, people, x -> x.left(0, 0));
        refusedWithoutChange("P29 no work", IOOBE, people, x -> x.earnedFrom(0, 0));
        refusedWithoutChange("P41 no work", IOOBE, people, x -> x.wouldEarn(0, 1, 0));
        due("P4 payees alone", people.make().richest() + " " + people.make().payable(), "1 0");
    }

    // ---- texts

    private static void p01NewObject() {
        Scene read = () -> {
            RoyaltyOffice x = new RoyaltyOffice();
            x.readText();
            return x;
        };
        due("P1 as if an empty text was read", everything(RoyaltyOffice::new), everything(read));
        RoyaltyOffice x = new RoyaltyOffice();
        for (int what = 0; what <= 6; what++) {
            due("P1 count " + what, x.count(what), 0);
        }
        due("P1 no error", error(x), "0 -1 0");
        due("P1 P22 no reversion", x.nextReversion() + " " + x.revertingWithin(9999), "-1 0");
        due("P1 P31 no work", x.dearestWork(), NONE);
        due("P1 P33 P34 no payees", x.richest() + " " + x.payable(), "0 0");
        due("P1 P35 no lines", x.lines(), 0);
        due("P1 P54 no undo", x.undo(), NONE);
        due("P1 an empty buffer", buffered(x), 0);
        due("NONE", RoyaltyOffice.NONE, -1);
    }

    private static RoyaltyOffice spaces(int bytes) {
        RoyaltyOffice x = new RoyaltyOffice();
        feed(x, " ".repeat(bytes));
        return x;
    }

    private static void p02Feed() {
        RoyaltyOffice x = new RoyaltyOffice();
        for (int n = 20; n <= 900; n += 20) {
            due("P2 the number of bytes", x.feed(0x20202020, 0x20202020, 0x0a202020, 0x20202020, 0x2020200a), n);
        }
        refused("P2 beyond 900", ISE, () -> x.feed(0, 0, 0, 0, 0));
        due("P2 900 bytes are read", x.amend() + " " + x.feed(0, 0, 0, 0, 0), "0 20");
        for (int bytes : new int[] {881, 882, 890, 899, 900}) {
            refusedWithoutChange("P2 beyond 900, from " + bytes, ISE, () -> spaces(bytes), y -> y.feed(0, 0, 0, 0, 0));
        }
        for (int bytes : new int[] {0, 1, 860, 861, 879, 880}) {
            due("P2 up to 900, from " + bytes, spaces(bytes).feed(0, 0, 0, 0, 0), bytes + 20);
        }
        RoyaltyOffice y = new RoyaltyOffice();
        y.feed(0x70617965, 0x65206162, 0x63206c65, 0x61737420, 0x3132333b);
        due("P2 most significant byte first", y.amend() + " " + y.least(0) + " " + report(y, false), "1 123 abc:0 0\n");
        int[] bytes = {0x80202020, 0x20802020, 0x20208020, 0x20202080};
        for (int i = 0; i < bytes.length; i++) {
            y.feed(0x20202020, bytes[i], 0x20202020, 0x20202020, 0x20202020);
            refused("P2 a byte of 128", IAE, y::amend);
            due("P2 P8 a byte of 128", error(y), "1 " + (4 + i) + " 0");
        }
        y.feed(-1, -1, -1, -1, -1);
        refused("P2 bytes of 255", IAE, y::amend);
        due("P2 P8 bytes of 255", error(y), "1 0 0");
    }

    private static void p03Truncate() {
        RoyaltyOffice x = new RoyaltyOffice();
        due("P3 an empty buffer", x.truncate(0), 0);
        refusedWithoutChange("P3 beyond an empty buffer", IAE, RoyaltyOffice::new, y -> y.truncate(1));
        refusedWithoutChange("P3 beyond a full buffer", IAE, () -> spaces(900), y -> y.truncate(901));
        due("P3 a full buffer", spaces(900).truncate(900), 900);
        feed(x, "payee ab;payee cd;");
        due("P3 to its length", x.truncate(18), 18);
        due("P3 a byte less", x.truncate(17), 17);
        refused("P3 not longer again", IAE, () -> x.truncate(18));
        due("P3 to some", x.truncate(7), 7);
        feed(x, "z;");
        due("P3 what stays, and what is appended", x.readText() + " " + report(x, false), "0 az:0 0\n");
        feed(x, "payee ab;");
        due("P3 to nothing", x.truncate(0) + " " + x.amend() + " " + x.count(0), "0 0 1");
    }

    private static void p04ReadText() {
        due("P4 no works", office("payee p;").count(1), 0);
        RoyaltyOffice x = new RoyaltyOffice();
        feed(x, "payee p;");
        due("P4 no works", x.readText(), 0);
        feed(x, "payee p;" + many("work w# by p 100;", 0, 12));
        due("P4 12 works", x.readText(), 12);
        due("P4 no works of an empty text", x.readText() + " " + x.count(0), "0 0");
        Scene reading = after(Checks::bare, y -> {
            feed(y, TEXT);
            return y.readText();
        });
        RoyaltyOffice y = reading.make();
        due("P4 replaces all", state(y), state(office(TEXT)));
        due("P4 P54 nothing to undo", reading.make().undo(), NONE);
        due("P4 empties the buffer", buffered(reading.make()), 0);
        due("P4 no error", error(reading.make()), "0 -1 0");
        due("P4 keeps the report", latestReport(reading.make()), latestReport(bare()));
        RoyaltyOffice restored = reading.make();
        RoyaltyOffice before = bare();
        due("P4 keeps what is saved", restored.restore() + state(restored), before.restore() + state(before));
        RoyaltyOffice late = bare();
        late.pass(9995);
        late.readText();
        due("P4 the first day again", late.count(4) + " " + late.pass(9999), "0 9999");
    }

    private static void p05Amend() {
        due("P5 no statements", bare().amend(), 0);
        RoyaltyOffice x = bare();
        String state = state(x);
        x.amend();
        due("P5 no statements change nothing", state(x), state);
        due("P5 P54 and can be undone", x.undo() + state(x), 4 + state);
        RoyaltyOffice y = new RoyaltyOffice();
        due("P5 all statements of a text", amend(y, many("payee p#;", 0, 10) + many("work w# by pa 100;", 0, 12)), 22);
        due("P5 empties the buffer", buffered(y), 0);
        RoyaltyOffice z = office(TEXT);
        z.pass(100);
        z.income(0, 50);
        due("P5 a split from a past day", amend(z, "split song from 11 by anna 100;") + " " + z.owners(0) + " "
                + z.splitOn(0, 10) + " " + z.splitOn(0, 11), "1 1 1 2");
        due("P5 P36 what was earned stays", lines(z), "0:2:50:0");
        due("P5 a split from today", amend(z, "split song from 100 by bob 100;") + " " + z.owners(0), "1 2");
        due("P5 from a later day", amend(z, "split rock from 101 by cy 100;") + " " + z.owners(1), "1 2");
        due("P5 an assignment of past days", amend(z, "assign bob in song to cy 5 from 99 until 100;") + " "
                + z.left(0, 1) + " " + z.nextReversion(), "1 0 -1");
        due("P5 an assignment of today", amend(z, "assign bob in song to cy 5 from 100 until 101;") + " "
                + z.left(0, 1) + " " + z.nextReversion(), "1 5 101");
    }

    private static void p06RunScript() {
        due("P6 no commands", bare().runScript(), 0);
        RoyaltyOffice x = bare();
        String state = state(x);
        x.runScript();
        due("P6 no commands change nothing", state(x), state);
        due("P6 P54 and can be undone", x.undo() + state(x), 4 + state);
        RoyaltyOffice y = bare();
        due("P6 a script that ends at its first command", script(y, "pass 9996;close;"), 0);
        due("P6 P54 can be undone", y.undo() + state(y), 4 + state);
        due("P6 empties the buffer", buffered(y), 0);
        RoyaltyOffice a = bare();
        RoyaltyOffice b = bare();
        due("P6 all commands", script(a, "income mix 500;pass 1;revert 0 9;least cy 3;close;repeat 1 (close;);"), 6);
        b.income(2, 500);
        due("P6 an income that is withheld from", b.line(0, 3), 39);
        b.pass(1);
        b.revert(0, 9);
        b.setLeast(2, 3);
        b.close();
        b.close();
        due("P6 as the methods", state(a), state(b));
        due("P6 P54 undone as a whole", a.undo() + state(a), 4 + state);
    }

    // ---- the office

    private static void p10Count() {
        RoyaltyOffice x = full();
        due("P10 all that an office holds", x.count(0) + " " + x.count(1) + " " + x.count(2) + " " + x.count(3),
                "10 12 16 12");
        x.pass(9999);
        due("P10 the last day", x.count(4), 9999);
        for (int n = 0; n <= 7; n++) {
            due("P10 statements and periods, after " + n, x.count(5) + " " + x.count(6), Math.min(n, 5) + " " + n);
            x.close();
        }
    }

    private static void p11Least() {
        RoyaltyOffice x = office("payee a;payee b least 0;payee c least 1;payee d least 99999;");
        due("P11 from none to the greatest", x.least(0) + " " + x.least(1) + " " + x.least(2) + " " + x.least(3),
                "0 0 1 99999");
        due("P11 of the tenth payee", full().least(9), 0);
    }

    private static void p12To15Splits() {
        RoyaltyOffice x = office("payee a;payee b;payee c;payee d;payee e;work w by a 100;"
                + "split w from 1 by b 1 c 99;split w from 2 by a 97 b 1 c 1 d 1;split w from 9999 by d 99 e 1;"
                + "work v by e 100;");
        due("P12 one split and four", x.splits(1) + " " + x.splits(0), "1 4");
        due("P13 the first day", x.splitOn(0, 0), 0);
        due("P13 from its day on", x.splitOn(0, 1) + " " + x.splitOn(0, 2) + " " + x.splitOn(0, 3), "1 2 2");
        due("P13 the last days", x.splitOn(0, 9998) + " " + x.splitOn(0, 9999), "2 3");
        due("P13 one split on all days", x.splitOn(1, 0) + " " + x.splitOn(1, 9999), "0 0");
        due("P14 shares of 100, 1, 99 and 97", x.share(0, 0, 0) + " " + x.share(0, 1, 1) + " " + x.share(0, 1, 2) + " "
                + x.share(0, 2, 0) + " " + x.share(0, 2, 3), "100 1 99 97 1");
        due("P14 no share", x.share(0, 0, 1) + " " + x.share(0, 1, 0) + " " + x.share(0, 2, 4) + " "
                + x.share(0, 3, 2), "0 0 0 0");
        due("P14 the last split", x.share(0, 3, 3) + " " + x.share(0, 3, 4), "99 1");
        due("P15 on the day before a split", x.owners(0), 1);
        x.pass(1);
        due("P15 on the day of a split", x.owners(0), 6);
        x.pass(1);
        due("P15 four owners", x.owners(0), 15);
        x.pass(9996);
        due("P15 the day before the last split", x.owners(0), 15);
        x.pass(1);
        due("P15 the last day", x.owners(0) + " " + x.owners(1), "24 16");
        RoyaltyOffice full = full();
        due("P15 the tenth payee", full.owners(11), 512 + 7);
        due("P14 the last of all", full.splits(11) + " " + full.share(11, 3, 9) + " " + full.share(11, 3, 8), "4 97 0");
        due("P13 the last work", full.splitOn(11, 3332) + " " + full.splitOn(11, 3333) + " " + full.splitOn(11, 9998)
                + " " + full.splitOn(11, 9999), "0 1 2 3");
    }

    private static void p16To19Sources() {
        RoyaltyOffice x = office("payee p;work wa by p 100;" + chain());
        due("P16 none and one", x.sources(0) + " " + x.sources(11), "0 1");
        due("P17 of a cover", x.source(11, 0, 0) + " " + x.source(11, 0, 1), "10 90");
        due("P18 none, one and all", x.roots(0) + " " + x.roots(1) + " " + x.roots(11), "0 1 2047");
        due("P19 none, one and all", x.offspring(11) + " " + x.offspring(10) + " " + x.offspring(0), "0 2048 4094");
        RoyaltyOffice full = full();
        due("P16 three", full.sources(11) + " " + full.sources(10) + " " + full.sources(9), "3 3 0");
        due("P17 in the order in which they were told", full.source(11, 0, 0) + " " + full.source(11, 1, 0) + " "
                + full.source(11, 2, 0) + " " + full.source(11, 2, 1), "0 1 2 30");
        refused("P17 a fourth", IOOBE, () -> full.source(11, 3, 0));
        due("P18 not of others", full.roots(11) + " " + full.roots(10) + " " + full.roots(9), "7 896 0");
        due("P19 not of others", full.offspring(0) + " " + full.offspring(7) + " " + full.offspring(3), "2048 1024 0");
        RoyaltyOffice cover = office("payee p;work a by p 100;work b by p 100;cover c of b 1 by p 100;sample a in c 1;");
        due("P17 of a cover the covered work first", cover.source(2, 0, 0) + " " + cover.source(2, 1, 0), "1 0");
        amend(cover, "work d by p 100;sample b in d 1;sample a in d 2;");
        due("P17 not by number", cover.source(3, 0, 0) + " " + cover.source(3, 1, 0) + " " + cover.source(3, 1, 1), "1 0 2");
    }

    /** Eleven works more, each of which covers the one before. */
    private static String chain() {
        StringBuilder text = new StringBuilder();
        for (char c = 'b'; c <= 'l'; c++) {
            text.append("cover w").append(c).append(" of w").append((char) (c - 1)).append(" 90 by p 100;");
        }
        return text.toString();
    }

    private static void p20Assignment() {
        RoyaltyOffice x = office("payee a;payee b;work v by a 100;work w by a 100;"
                + "assign b in w to a 1 from 0 until 1;assign a in v to b 100 from 9998 until 9999;"
                + "assign a in w to b 5 from 3 until 6;");
        due("P20 lowest", x.assignment(0, 0) + " " + x.assignment(0, 1) + " " + x.assignment(0, 2) + " "
                + x.assignment(0, 3) + " " + x.assignment(0, 4) + " " + x.assignment(0, 5), "1 1 0 1 0 1");
        due("P20 greatest", x.assignment(1, 3) + " " + x.assignment(1, 4) + " " + x.assignment(1, 5), "100 9998 9999");
        due("P20 on its first day 0", x.assignment(0, 6) + " " + x.assignment(2, 6), "1 0");
        x.pass(1);
        due("P20 on its second day", x.assignment(0, 6), 0);
        x.pass(1);
        due("P20 ahead of its first day", x.assignment(2, 6), 0);
        x.pass(1);
        due("P20 on its first day", x.assignment(2, 6), 1);
        x.pass(2);
        due("P20 ahead of its second day", x.assignment(2, 6), 1);
        x.pass(1);
        due("P20 on its second day", x.assignment(2, 6), 0);
        x.pass(9991);
        due("P20 ahead of the last", x.assignment(1, 6), 0);
        x.pass(1);
        due("P20 on day 9998", x.assignment(1, 6), 1);
        x.pass(1);
        due("P20 on day 9999", x.assignment(1, 6), 0);
        RoyaltyOffice full = full();
        due("P20 the sixteenth", full.assignment(15, 0) + " " + full.assignment(15, 1) + " " + full.assignment(15, 5)
                + " " + full.assignment(15, 6), "9 11 9999 1");
    }

    private static void p21Left() {
        RoyaltyOffice x = office("payee a;payee b;payee c;work v by a 100;work w by a 100;"
                + "assign a in v to b 99 from 2 until 4;assign a in v to c 1 from 3 until 5;"
                + "assign b in v to c 100 from 0 until 1;assign a in w to c 7 from 0 until 9999;");
        due("P21 none yet", x.left(0, 0), 0);
        due("P21 all, without a share", x.left(0, 1), 100);
        due("P21 in another work", x.left(1, 0) + " " + x.left(1, 1), "7 0");
        x.pass(1);
        due("P21 reverted", x.left(0, 1), 0);
        StringBuilder left = new StringBuilder();
        for (int day = 2; day <= 5; day++) {
            x.pass(1);
            left.append(x.left(0, 0)).append(' ');
        }
        due("P21 one, both, one, none", left, "99 100 1 0 ");
        due("P21 sixteen of them", full().left(11, 9), 96);
    }

    private static void p22And23Reversions() {
        RoyaltyOffice x = office(PEOPLE + "work w by anna 100;assign anna in w to cy 5 from 0 until 1;"
                + "assign anna in w to cy 5 from 8 until 9;assign anna in w to cy 5 from 8 until 9;"
                + "assign anna in w to cy 5 from 9998 until 9999;");
        due("P22 a day ahead", x.nextReversion(), 1);
        due("P23 the present day alone", x.revertingWithin(0), 0);
        due("P23 up to its day", x.revertingWithin(1) + " " + x.revertingWithin(8) + " " + x.revertingWithin(9) + " "
                + x.revertingWithin(9998) + " " + x.revertingWithin(9999), "1 1 3 3 4");
        x.pass(1);
        due("P22 not that of the present day", x.nextReversion(), 9);
        due("P23 not that of the present day", x.revertingWithin(0) + " " + x.revertingWithin(7) + " "
                + x.revertingWithin(8) + " " + x.revertingWithin(9999), "0 0 2 3");
        x.pass(8);
        due("P22 the last one", x.nextReversion(), 9999);
        x.pass(9989);
        due("P22 of an assignment of today", x.nextReversion() + " " + x.revertingWithin(0) + " "
                + x.revertingWithin(1) + " " + x.revertingWithin(9999), "9999 0 1 1");
        x.pass(1);
        due("P22 none on the last day", x.nextReversion() + " " + x.revertingWithin(9999), "-1 0");
        due("P22 P23 without assignments", office("payee a;").nextReversion() + " " + office("").revertingWithin(9999),
                "-1 0");
        due("P23 sixteen", full().revertingWithin(9998) + " " + full().revertingWithin(9999), "0 16");
    }

    private static void p24To26Advances() {
        RoyaltyOffice x = office("payee a;payee b;payee c;work v by b 100;work w by b 100;"
                + "advance a 1 to b rate 100;advance c 999999 to b rate 1 on v;advance a 10 to b rate 100 on w;");
        due("P24 lowest", x.advance(0, 2) + " " + x.advance(0, 3) + " " + x.advance(0, 4) + " " + x.advance(0, 5),
                "1 100 -1 1");
        due("P24 greatest", x.advance(1, 0) + " " + x.advance(1, 1) + " " + x.advance(1, 2) + " " + x.advance(1, 3) + " "
                + x.advance(1, 4) + " " + x.advance(1, 5), "2 1 999999 1 0 999999");
        due("P25 none and some", x.owed(0) + " " + x.owed(1) + " " + x.owed(2), "0 1000010 0");
        due("P26 none and the first", x.firstOpen(0) + " " + x.firstOpen(1) + " " + x.firstOpen(2), "-1 0 -1");
        x.income(1, 10);
        due("P24 recouped, and 1 cent left", x.advance(0, 5) + " " + x.advance(0, 2) + " " + x.advance(2, 5), "0 1 1");
        due("P25 P26 the next", x.owed(1) + " " + x.firstOpen(1), "1000000 1");
        x.income(1, 1);
        due("P24 P25 the last cent", x.advance(2, 5) + " " + x.owed(1), "0 999999");
        RoyaltyOffice y = office("payee a;payee b;work v by b 100;advance a 2 to b rate 100;");
        y.income(0, 1);
        due("P26 1 cent left", y.firstOpen(1) + " " + y.owed(1), "0 1");
        y.income(0, 1);
        due("P26 all recouped", y.firstOpen(1) + " " + y.owed(1), "-1 0");
        due("P25 P26 twelve of them", full().owed(9) + " " + full().firstOpen(9), 12 * 999999 + " 0");
        due("P24 the twelfth", full().advance(11, 5) + " " + full().advance(11, 4), "999999 -1");
        due("P24 on the twelfth work", office("payee p;payee q;" + many("work w# by p 100;", 0, 12)
                + "advance p 1 to q rate 1 on wl;").advance(0, 4), 11);
    }

    // ---- accounts

    private static void p27To30Accounts() {
        RoyaltyOffice x = office(TEXT);
        due("P27 to P30 nothing yet", x.balance(0) + " " + x.total(0, 0) + " " + x.total(0, 1) + " " + x.total(2, 2) + " "
                + x.total(1, 3) + " " + x.earnedFrom(0, 0) + " " + x.came(0), "0 0 0 0 0 0 0");
        x.income(0, 1);
        // Anna's cent: a quarter of it is nothing, half of it too, and the second advance takes it all.
        due("P27 a cent that is withheld", x.balance(0) + " " + x.balance(2), "0 1");
        due("P28 a cent", x.total(0, 0) + " " + x.total(0, 1) + " " + x.total(2, 0) + " " + x.total(2, 2), "1 1 0 1");
        due("P29 P30 a cent", x.earnedFrom(0, 0) + " " + x.earnedFrom(2, 0) + " " + x.came(0) + " " + x.came(1), "1 0 1 0");
        due("P28 not paid yet", x.total(2, 3), 0);
        earnedFromEach();
        x.close();
        due("P27 P28 paid", x.balance(2) + " " + x.total(2, 3) + " " + x.total(2, 2), "0 1 1");
        x.readText();
        due("P28 since the text was read", office(TEXT).total(0, 0), 0);
        RoyaltyOffice again = office(TEXT);
        again.income(2, GREATEST);
        feed(again, TEXT);
        again.readText();
        due("P27 to P30 since the text was read", state(again), state(office(TEXT)));
        due("P30 what it got as a source, ahead of its own sources", cameOf("cover b of a 50 by p 100;cover c of b 90 by p 100;",
                2, 101), "45 90 101");
        due("P30 from two works at once", cameOf("cover b of a 50 by p 100;cover c of b 40 by p 100;sample a in c 50;", 2, 100),
                "70 40 100");
    }

    // Each of ten payees earns another amount from each of twelve works.
    private static void earnedFromEach() {
        RoyaltyOffice x = office(many("payee p#;", 0, 10) + many("work w# by pa 100;", 0, 12));
        for (int p = 0; p < 10; p++) {
            if (p > 0) {
                amend(x, many("split w# from " + p + " by p" + (char) ('a' + p) + " 100;", 0, 12));
            }
            for (int w = 0; w < 12; w++) {
                x.income(w, 100 * p + w + 1);
            }
            if (p == 3) {
                break;
            }
            x.pass(1);
        }
        RoyaltyOffice y = office(many("payee p#;", 0, 10) + "work v by pa 100;" + many("work w# by p# 100;", 0, 10)
                + "work u by pj 50 pi 50;");
        for (int w = 0; w < 12; w++) {
            y.income(w, 2 * w + 2);
        }
        for (int w = 0; w < 12; w++) {
            for (int p = 0; p < 10; p++) {
                due("P29 of payee " + p + " from work " + w + ", four splits", x.earnedFrom(p, w),
                        p < 4 ? 100 * p + w + 1 : 0);
                due("P29 of payee " + p + " from work " + w, y.earnedFrom(p, w), w == 0 ? p == 0 ? 2 : 0
                        : w == 11 ? p >= 8 ? 12 : 0 : p == w - 1 ? 2 * w + 2 : 0);
            }
        }
    }

    private static String cameOf(String covers, int work, int amount) {
        RoyaltyOffice x = office("payee p;work a by p 100;" + covers);
        x.income(work, amount);
        return x.came(0) + " " + x.came(1) + " " + x.came(2);
    }

    private static void p31DearestWork() {
        RoyaltyOffice x = office("payee p;" + many("work w# by p 100;", 0, 12));
        due("P31 nothing came", x.dearestWork(), NONE);
        x.income(11, 1);
        due("P31 a cent", x.dearestWork(), 11);
        x.income(11, 4);
        due("P31 the last work", x.dearestWork(), 11);
        x.income(4, 5);
        due("P31 the lowest of two", x.dearestWork(), 4);
        x.income(11, 1);
        due("P31 a cent more", x.dearestWork(), 11);
        x.income(0, 6);
        due("P31 the lowest of two, work 0", x.dearestWork(), 0);
        x.close();
        due("P31 all periods count", x.dearestWork(), 0);
        due("P31 works, and nothing came", office(TEXT).dearestWork(), NONE);
    }

    private static void p32Part() {
        RoyaltyOffice x = office("payee a;payee b;payee c;work v by a 1 b 99;work w by a 100;advance b 5 to a rate 100;");
        due("P32 nobody earned anything", x.part(0) + " " + x.part(2), "0.0 0.0");
        x.income(1, 1);
        due("P32 all, though withheld", x.part(0) + " " + x.part(1), "1.0 0.0");
        x.income(0, 100);
        due("P32 some", x.part(0) + " " + x.part(1) + " " + x.part(2), 2f / 101f + " " + 99f / 101f + " 0.0");
        x.close();
        due("P32 paid amounts count", x.part(1), 99f / 101f);
        RoyaltyOffice y = office("payee a;payee b;work w by a 50 b 50;work v by a 100;");
        script(y, "repeat 20(income w 999999;income w 999999;);");
        y.income(1, 1);
        long a = y.total(0, 0);
        long b = y.total(1, 0);
        due("P32 amounts beyond a float's digits", y.part(0), (float) a / (float) (a + b));
    }

    private static void p33Richest() {
        due("P33 no payees", office("").richest(), 0);
        due("P33 one payee", office("payee a;").richest(), 1);
        due("P33 ten payees with nothing", full().richest(), 1023);
        RoyaltyOffice x = office("payee a;payee b;payee c;work v by b 50 c 50;work w by a 100;");
        x.income(0, 4);
        due("P33 two of three", x.richest(), 6);
        x.income(1, 2);
        due("P33 all three", x.richest(), 7);
        x.income(1, 1);
        due("P33 a cent more", x.richest(), 1);
        RoyaltyOffice y = office(many("payee p#;", 0, 10) + "work w by pj 100;");
        y.income(0, 1);
        due("P33 the tenth payee", y.richest(), 512);
    }

    private static void p34Payable() {
        RoyaltyOffice x = office("payee a;payee b least 1;payee c least 100;payee d least 99999;"
                + "work w by a 100;work v by b 100;work u by c 100;work t by d 100;");
        due("P34 balances of 0", x.payable(), 0);
        x.income(0, 1);
        due("P34 a cent, of a least balance of 0", x.payable(), 1);
        x.income(1, 1);
        due("P34 a cent, of a least balance of 1", x.payable(), 3);
        x.income(2, 99);
        x.income(3, 99998);
        due("P34 a cent less than the least balance", x.payable(), 3);
        due("P50 pays as much", x.close() + " " + x.payable(), "2 0");
        x.income(2, 1);
        due("P34 just the least balance", x.payable(), 4);
        x.income(3, 1);
        due("P34 just the greatest least balance", x.payable(), 12);
        x.setLeast(2, 101);
        due("P34 by a new least balance", x.payable(), 8);
        due("P50 pays as much", x.close() + " " + x.balance(2), "99999 100");
        RoyaltyOffice y = office(many("payee p#;", 0, 10) + "work w by pj 100;");
        y.income(0, 1);
        due("P34 the tenth payee", y.payable(), 512);
    }

    // ---- the latest income, statements

    private static void p35And36Lines() {
        RoyaltyOffice x = office(TEXT);
        due("P35 no income", x.lines(), 0);
        refused("P36 no income", IOOBE, () -> x.line(0, 0));
        x.income(2, 1001);
        int seven = x.lines();
        due("P36 the last line", seven + " " + x.line(6, 0) + " " + x.line(6, 1) + " " + x.line(6, 2) + " " + x.line(6, 3),
                "7 0 1 40 0");
        refused("P36 beyond the last", IOOBE, () -> x.line(7, 0));
        x.income(1, 1);
        due("P35 of the latest income alone", lines(x), "1:1:1:0");
        refused("P36 a line of the income before", IOOBE, () -> x.line(1, 0));
        x.close();
        x.pass(1);
        amend(x, "payee dora;");
        due("P35 other calls leave them", lines(x), "1:1:1:0");
        x.undo();
        x.undo();
        x.undo();
        x.undo();
        due("P35 P54 after an undo", x.lines(), 7);
        x.undo();
        due("P35 P54 ahead of all", x.lines(), 0);
        x.income(1, 1);
        feed(x, TEXT);
        x.readText();
        due("P35 none since the text was read", x.lines(), 0);
        refused("P36 none since the text was read", IOOBE, () -> x.line(0, 0));
    }

    private static void p37And38Statements() {
        RoyaltyOffice x = office("payee a least 99999;work w by a 100;");
        refused("P37 none", IOOBE, () -> x.statement(0, 0, 0));
        refused("P38 none", IOOBE, () -> x.statementDay(0));
        for (int n = 1; n <= 12; n++) {
            x.income(0, n);
            x.close();
            int kept = Math.min(n, 5);
            for (int i = 0; i < kept; i++) {
                due("P37 statement " + i + " of " + n, x.statement(i, 0, 0), n - i);
                due("P38 day of statement " + i + " of " + n, x.statementDay(i), n - 1 - i);
            }
            refused("P37 beyond the " + kept + " kept", IOOBE, () -> x.statement(kept, 0, 0));
            refused("P38 beyond the " + kept + " kept", IOOBE, () -> x.statementDay(kept));
            x.pass(1);
        }
        due("P37 nothing paid, all carried on", x.statement(0, 0, 3) + " " + x.statement(0, 0, 4), "0 78");
        RoyaltyOffice late = office("");
        for (int n = 0; n < 6; n++) {
            late.close();
        }
        amend(late, many("payee p#;", 0, 10) + "work w by pj 100;");
        due("P37 a payee defined later", late.statement(0, 9, 4) + " " + late.statement(4, 0, 0), "0 0");
        late.income(0, 7);
        late.close();
        due("P37 defined ahead of it, and later", late.statement(0, 9, 0) + " " + late.statement(0, 9, 3) + " "
                + late.statement(1, 9, 0) + " " + late.statement(1, 9, 3), "7 7 0 0");
        late.undo();
        late.undo();
        late.undo();
        amend(late, "payee other;");
        due("P37 P54 defined again after an undo", late.statement(0, 0, 0) + " " + late.count(5), "0 5");
        late.close();
        due("P37 what was undone leaves nothing", late.statement(0, 0, 0) + " " + late.statement(0, 0, 3), "0 0");
        RoyaltyOffice first = office("payee a;payee b;work w by a 100;advance b 10 to a rate 50;");
        first.income(0, 10);
        first.close();
        due("P37 P38 all of a statement on day 0", first.statement(0, 0, 0) + " " + first.statement(0, 0, 1) + " "
                + first.statement(0, 1, 2) + " " + first.statement(0, 0, 3) + " " + first.statement(0, 0, 4) + " "
                + first.statementDay(0), "10 5 5 5 0 0");
        first.pass(9999);
        first.close();
        due("P38 the last day", first.statementDay(0) + " " + first.statementDay(1), "9999 0");
    }

    private static void p39Current() {
        RoyaltyOffice x = office("payee a least 99;payee b;work w by a 100;advance b 10 to a rate 50;");
        due("P39 nothing yet", x.current(0, 0) + " " + x.current(0, 1) + " " + x.current(1, 2), "0 0 0");
        x.income(0, 1);
        due("P39 a cent", x.current(0, 0) + " " + x.current(0, 1) + " " + x.current(1, 2), "1 0 0");
        x.income(0, 2);
        due("P39 two incomes", x.current(0, 0) + " " + x.current(0, 1) + " " + x.current(1, 2), "3 1 1");
        x.close();
        due("P39 a new period, though nothing was paid to it", x.current(0, 0) + " " + x.current(0, 1) + " "
                + x.current(1, 2) + " " + x.balance(0), "0 0 0 2");
        x.undo();
        due("P39 P54 the period before", x.current(0, 0) + " " + x.current(0, 1) + " " + x.current(1, 2), "3 1 1");
    }

    // ---- what would be

    private static void p40To42WouldBe() {
        RoyaltyOffice x = office(TEXT);
        due("P40 to itself", x.wouldCome(2, 1, 2) + " " + x.wouldCome(2, GREATEST, 2), "1 9999999");
        due("P40 less than a cent", x.wouldCome(2, 1, 1) + " " + x.wouldCome(2, 2, 1), "0 1");
        due("P40 to a source of a source", x.wouldCome(2, 9, 0) + " " + x.wouldCome(2, 10, 0), "0 1");
        due("P40 to a work that is no source", x.wouldCome(0, GREATEST, 2) + " " + x.wouldCome(0, GREATEST, 1), "0 0");
        due("P40 the greatest", x.wouldCome(2, GREATEST, 1) + " " + x.wouldCome(2, GREATEST, 0), "4999999 999999");
        due("P41 a cent", x.wouldEarn(2, 1, 0) + " " + x.wouldEarn(2, 1, 1) + " " + x.wouldEarn(2, 1, 2), "1 0 0");
        due("P41 the greatest", x.wouldEarn(2, GREATEST, 0) + x.wouldEarn(2, GREATEST, 1) + x.wouldEarn(2, GREATEST, 2),
                GREATEST);
        due("P42 the greatest", x.wouldGrow(2, GREATEST, 0) + x.wouldGrow(2, GREATEST, 1) + x.wouldGrow(2, GREATEST, 2),
                GREATEST);
        due("P41 P42 a cent that is withheld", x.wouldEarn(0, 1, 0) + " " + x.wouldGrow(0, 1, 0) + " "
                + x.wouldEarn(0, 1, 2) + " " + x.wouldGrow(0, 1, 2), "1 0 0 1");
        due("P42 nothing", x.wouldGrow(1, 1, 2), 0);
        wouldBeNow();
        RoyaltyOffice y = office(TEXT);
        y.income(2, GREATEST);
        due("P41 P42 as it is booked", x.wouldEarn(2, GREATEST, 0) + " " + x.wouldGrow(2, GREATEST, 0) + " "
                + x.wouldGrow(2, GREATEST, 2), y.total(0, 0) + " " + y.balance(0) + " " + y.balance(2));
        due("P40 as it is booked", x.wouldCome(2, GREATEST, 0), y.came(0));
    }

    // "Now" is the present day, and what the office holds now, whatever was asked before.
    private static void wouldBeNow() {
        String text = PEOPLE + "work w by anna 100;split w from 1 by bob 100;advance cy 5 to anna rate 100;";
        Act[] asks = {x -> x.wouldCome(0, 9, 0), x -> x.wouldEarn(0, 9, 1), x -> x.wouldGrow(0, 9, 1),
            x -> x.wouldEarnOn(0, 9, 1, x.count(4)), x -> x.income(0, 9) + lines(x), x -> x.amountToRecoup(0, 0, 9),
            x -> script(x, "income w 9;") + lines(x)};
        String[] first = {"9", "0", "0", "0", "10:0:9:5", "5", "10:0:9:5"};
        String[] later = {"9", "9", "9", "9", "10:1:9:0", "-1", "10:1:9:0"};
        for (int i = 0; i < asks.length; i++) {
            RoyaltyOffice x = office(text);
            due("P40 to P46 on day 0, " + i, asks[i].on(x), first[i]);
            RoyaltyOffice y = office(text);
            y.wouldEarn(0, 9, 0);
            y.pass(1);
            due("P40 to P46 on day 1, " + i, asks[i].on(y), later[i]);
            RoyaltyOffice z = office(text);
            z.pass(1);
            due("P40 to P46 on day 1 first, " + i, asks[i].on(z), later[i]);
            RoyaltyOffice amended = office(text);
            amended.wouldGrow(0, 9, 0);
            amend(amended, "assign anna in w to bob 100 from 0 until 1;");
            due("P40 to P46 after an assignment, " + i, asks[i].on(amended), later[i]);
        }
        RoyaltyOffice x = office(text);
        x.income(0, 4);
        due("P42 P43 after an income", x.wouldGrow(0, 9, 0) + " " + x.wouldGrow(0, 9, 2) + " " + x.amountToRecoup(0, 0, 9),
                "8 1 1");
        x.undo();
        due("P42 P43 after an undo", x.wouldGrow(0, 9, 0) + " " + x.wouldGrow(0, 9, 2) + " " + x.amountToRecoup(0, 0, 9),
                "4 5 5");
    }

    private static void p43AmountToRecoup() {
        RoyaltyOffice x = office("payee a;payee b;payee c;work w by a 100;work v by c 100;work u by c 50 a 50;"
                + "advance b 1 to a rate 100;advance b 9999 to a rate 100;advance b 100 to a rate 1 on w;");
        due("P43 the least amount of all", x.amountToRecoup(0, 0, 1) + " " + x.amountToRecoup(0, 0, 9999), "1 1");
        due("P43 a work without it", x.amountToRecoup(0, 1, 9999), NONE);
        due("P43 behind another advance", x.amountToRecoup(1, 0, 9999), NONE);
        due("P43 on another work", x.amountToRecoup(2, 1, 9999) + " " + x.amountToRecoup(2, 0, 9999), "-1 -1");
        due("P43 an uneven share", x.amountToRecoup(0, 2, 2) + " " + x.amountToRecoup(0, 2, 1), "2 -1");
        x.income(0, 1);
        refused("P43 recouped already, and most is 0", IAE, () -> x.amountToRecoup(0, 0, 0));
        refused("P43 recouped already, and most is 10000", IAE, () -> x.amountToRecoup(0, 0, 10000));
        refused("P43 recouped already, and no such work", IOOBE, () -> x.amountToRecoup(0, 3, 0));
        due("P43 recouped already", x.amountToRecoup(0, 0, 1) + " " + x.amountToRecoup(0, 1, 9999), "0 0");
        due("P43 the greatest amount, all of it", x.amountToRecoup(1, 0, 9999) + " " + x.amountToRecoup(1, 0, 9998),
                "9999 -1");
        x.income(0, 9998);
        due("P43 a cent left", x.amountToRecoup(1, 0, 1) + " " + x.advance(1, 5), "1 1");
        RoyaltyOffice y = office("payee a;payee b;work w by a 100;advance b 99 to a rate 1;advance b 3 to a rate 33 on w;");
        due("P43 up to just that amount", y.amountToRecoup(0, 0, 9999) + " " + y.amountToRecoup(0, 0, 9900) + " "
                + y.amountToRecoup(0, 0, 9899), "9900 9900 -1");
        due("P43 rounded down", y.amountToRecoup(1, 0, 10) + " " + y.amountToRecoup(1, 0, 9), "10 -1");
        due("P43 the greatest advance", full().amountToRecoup(0, 0, 9999), NONE);
        // A greater amount brings less now and then: of 7 cents the sources get 3 and 2, of 8 they get 4 and 3.
        RoyaltyOffice z = office("payee a;payee b;payee c;work r by c 100;work s by c 100;work w by a 100;"
                + "sample r in w 50;sample s in w 40;advance b 2 to a rate 100;");
        due("P43 less by a greater amount", z.wouldEarn(2, 7, 0) + " " + z.wouldEarn(2, 8, 0), "2 1");
        due("P43 the least of several", z.amountToRecoup(0, 2, 9999) + " " + z.amountToRecoup(0, 2, 8) + " "
                + z.amountToRecoup(0, 2, 7) + " " + z.amountToRecoup(0, 2, 6), "7 7 7 -1");
        RoyaltyOffice days = office("payee a;payee b;work w by b 100;split w from 5 by a 100;advance b 5 to a rate 100;");
        days.pass(4);
        due("P43 on the day before a split", days.amountToRecoup(0, 0, 9999), NONE);
        days.pass(1);
        due("P43 on the day of a split", days.amountToRecoup(0, 0, 9999), 5);
    }

    private static void p44WouldEarnOn() {
        RoyaltyOffice x = office(TEXT);
        due("P44 the first and the last day", x.wouldEarnOn(0, 1, 0, 0) + " " + x.wouldEarnOn(0, 1, 0, 9999) + " "
                + x.wouldEarnOn(0, 1, 2, 9999), "1 0 1");
        due("P44 around the second day, and the day of a split", x.wouldEarnOn(0, 100, 2, 9) + " "
                + x.wouldEarnOn(0, 100, 2, 10) + " " + x.wouldEarnOn(0, 100, 0, 9) + " " + x.wouldEarnOn(0, 100, 0, 10),
                "15 100 45 0");
        due("P44 the greatest", x.wouldEarnOn(0, GREATEST, 2, 9999), GREATEST);
        amend(x, "assign bob in rock to cy 50 from 9998 until 9999;");
        due("P44 around the first day", x.wouldEarnOn(1, 10, 2, 9997) + " " + x.wouldEarnOn(1, 10, 2, 9998) + " "
                + x.wouldEarnOn(1, 10, 2, 9999), "2 6 2");
        x.pass(9999);
        due("P44 the last day as the present one", x.wouldEarnOn(0, 5, 2, 9999), 5);
        refusedWithoutChange("P44 a day before", IAE, after(() -> office(TEXT), y -> y.pass(9999)),
                y -> y.wouldEarnOn(0, 5, 2, 9998));
    }

    private static void p45BestDay() {
        String head = PEOPLE + "work w by anna 50 bob 50;";
        due("P45 all days alike", office(head).bestDay(0, 5, 0) + " " + office(head).bestDay(0, 5, 2), "0 0");
        RoyaltyOffice x = office(head + "split w from 1 by anna 51 bob 49;split w from 9999 by anna 52 bob 48;");
        due("P45 the last day", x.bestDay(0, 100, 0), 9999);
        due("P45 the earliest of several, by rounding", x.bestDay(0, 1, 0) + " " + x.bestDay(0, 3, 0), "0 0");
        due("P45 the first day", x.bestDay(0, 100, 1), 0);
        x.pass(1);
        due("P45 not ahead of the present day", x.bestDay(0, 100, 1), 1);
        x.pass(9998);
        due("P45 the last day as the present one", x.bestDay(0, 100, 0) + " " + x.bestDay(0, 100, 1), "9999 9999");
        RoyaltyOffice y = office(head + "assign anna in w to cy 40 from 3 until 7;assign bob in w to cy 50 from 5 until 9998;"
                + "assign bob in w to anna 50 from 9000 until 9999;");
        due("P45 where two meet", y.bestDay(0, 100, 2), 5);
        due("P45 one more cent", y.bestDay(0, 100, 0) + " " + y.bestDay(0, 100, 1), "9000 0");
        y.pass(4);
        due("P45 a second day", y.bestDay(0, 100, 1), 4);
        y.pass(2);
        due("P45 the day on which a right reverts", y.bestDay(0, 100, 1) + " " + y.bestDay(0, 100, 2), "9999 6");
        RoyaltyOffice z = office(head + "assign anna in w to cy 40 from 0 until 9999;");
        due("P45 a reversion on the last day", z.bestDay(0, 100, 0) + " " + z.bestDay(0, 100, 2), "9999 0");
        due("P45 of the greatest amount", z.bestDay(0, GREATEST, 0), 9999);
        RoyaltyOffice source = office(head + "cover v of w 50 by bob 100;split w from 8 by cy 100;split v from 9 by cy 100;");
        due("P45 by the split of a source", source.bestDay(1, 100, 0) + " " + source.bestDay(1, 100, 2), "0 9");
    }

    // ---- income: P46, with sections 2 and 3

    private static RoyaltyOffice booked(String text, int work, int amount) {
        RoyaltyOffice x = office(text);
        due("P46 the number of lines", x.income(work, amount), x.lines());
        return x;
    }

    private static void p46Percentages() {
        String four = "payee a;payee b;payee c;payee d;work w by a 25 b 25 c 25 d 25;";
        due("P46 a cent, to the first share", lines(booked(four, 0, 1)), "0:0:1:0");
        due("P46 two cents", lines(booked(four, 0, 2)), "0:0:1:0 0:1:1:0");
        due("P46 three cents, not to the last share", lines(booked(four, 0, 3)), "0:0:1:0 0:1:1:0 0:2:1:0");
        due("P46 no cents left", lines(booked(four, 0, 4)), "0:0:1:0 0:1:1:0 0:2:1:0 0:3:1:0");
        due("P46 one cent left", lines(booked(four, 0, 5)), "0:0:2:0 0:1:1:0 0:2:1:0 0:3:1:0");
        String order = "payee a;payee b;work w by b 1 a 99;";
        due("P46 the order of the shares", lines(booked(order, 0, 1)), "0:1:1:0");
        due("P46 99 percent of 99", lines(booked(order, 0, 99)), "0:1:1:0 0:0:98:0");
        due("P46 1 percent of 100", lines(booked(order, 0, 100)), "0:1:1:0 0:0:99:0");
        due("P46 1 percent of 101, and a cent", lines(booked(order, 0, 101)), "0:1:2:0 0:0:99:0");
        due("P46 the greatest income", lines(booked(four, 0, GREATEST)),
                "0:0:2500000:0 0:1:2500000:0 0:2:2500000:0 0:3:2499999:0");
        due("P46 one share of the greatest", lines(booked("payee a;work w by a 100;", 0, GREATEST)), "0:0:9999999:0");
    }

    private static void p46Sources() {
        String cover = "payee a;payee b;work s by a 100;cover w of s # by b 100;";
        due("P46 1 percent of 99", lines(booked(cover.replace("#", "1"), 1, 99)), "1:1:99:0");
        due("P46 1 percent of 100", lines(booked(cover.replace("#", "1"), 1, 100)), "1:1:99:0 0:0:1:0");
        due("P46 90 percent of 1", lines(booked(cover.replace("#", "90"), 1, 1)), "1:1:1:0");
        due("P46 90 percent of 2", lines(booked(cover.replace("#", "90"), 1, 2)), "1:1:1:0 0:0:1:0");
        due("P46 90 percent of the greatest", lines(booked(cover.replace("#", "90"), 1, GREATEST)),
                "1:1:1000000:0 0:0:8999999:0");
        due("P46 of the source alone", lines(booked(cover.replace("#", "90"), 0, 5)), "0:0:5:0");
        String three = "payee a;work r by a 100;work s by a 100;work t by a 100;work w by a 100;"
                + "sample t in w 30;sample r in w 30;sample s in w 30;";
        due("P46 each source of what came, not of what is left", lines(booked(three, 3, 10)),
                "3:0:1:0 2:0:3:0 1:0:3:0 0:0:3:0");
        RoyaltyOffice x = booked("payee p;work wa by p 100;" + chain(), 11, GREATEST);
        due("P46 a chain of all works", x.lines() + " " + x.came(0) + " " + x.line(0, 0) + " " + x.line(11, 0),
                "12 3138103 11 0");
        RoyaltyOffice twice = booked("payee p;work a by p 100;work b by p 100;cover c of a 50 by p 100;sample b in c 40;"
                + "sample a in b 50;", 2, 100);
        due("P46 a source twice, by two ways, divided once", lines(twice), "2:0:10:0 1:0:20:0 0:0:70:0");
    }

    private static void p46Assignments() {
        String text = "payee a;payee b;payee c;payee d;work w by a 100;assign a in w to b # from 2 until 4;";
        due("P46 ahead of its first day", lines(booked(text.replace("#", "50"), 0, 10)), "0:0:10:0");
        due("P46 1 percent of 99", assigned(text.replace("#", "1"), 2, 99), "0:0:99:0");
        due("P46 1 percent of 100", assigned(text.replace("#", "1"), 2, 100), "0:1:1:0 0:0:99:0");
        due("P46 99 percent of 1", assigned(text.replace("#", "99"), 2, 1), "0:0:1:0");
        due("P46 99 percent of the greatest", assigned(text.replace("#", "99"), 2, GREATEST), "0:1:9899999:0 0:0:100000:0");
        due("P46 100 percent, and no line of the payee", assigned(text.replace("#", "100"), 2, 1), "0:1:1:0");
        due("P46 on its first day", assigned(text.replace("#", "50"), 2, 10), "0:1:5:0 0:0:5:0");
        due("P46 ahead of its second day", assigned(text.replace("#", "50"), 3, 10), "0:1:5:0 0:0:5:0");
        due("P46 on its second day", assigned(text.replace("#", "50"), 4, 10), "0:0:10:0");
        String two = text.replace("#", "50") + "assign a in w to c 50 from 2 until 3;";
        due("P46 each of the whole part", assigned(two, 2, 11), "0:1:5:0 0:2:5:0 0:0:1:0");
        due("P46 both of it all", assigned(two, 2, 10), "0:1:5:0 0:2:5:0");
        due("P46 one of them reverted", assigned(two, 3, 10), "0:1:5:0 0:0:5:0");
        due("P46 not of what another payee leaves", assigned(text.replace("#", "50")
                + "assign b in w to c 100 from 0 until 9999;", 2, 10), "0:1:5:0 0:0:5:0");
        due("P46 not of a work that was not told", assigned(text.replace("#", "50")
                + "work v by a 100;assign a in v to c 50 from 0 until 9999;", 2, 10), "0:1:5:0 0:0:5:0");
        RoyaltyOffice x = full();
        x.income(11, GREATEST);
        due("P46 sixteen assignments of a share", x.lines() + " " + x.line(18, 1) + " " + x.line(19, 1), "32 0 9");
        RoyaltyOffice cents = office("payee a;payee b;payee c;work w by a 50 b 50;assign a in w to c 50 from 0 until 9;");
        cents.income(0, 3);
        due("P46 of the part with its cent", lines(cents), "0:2:1:0 0:0:1:0 0:1:1:0");
    }

    private static String assigned(String text, int day, int amount) {
        RoyaltyOffice x = office(text);
        x.pass(day);
        x.income(0, amount);
        return lines(x);
    }

    private static void p46Advances() {
        String text = "payee a;payee b;payee c;work w by a 100;work v by a 100;";
        due("P46 1 percent of 99", lines(booked(text + "advance b 5 to a rate 1;", 0, 99)), "0:0:99:0");
        due("P46 1 percent of 100", lines(booked(text + "advance b 5 to a rate 1;", 0, 100)), "0:0:100:1");
        due("P46 all of it", lines(booked(text + "advance b 5 to a rate 100;", 0, 4)), "0:0:4:4");
        due("P46 just what is left", lines(booked(text + "advance b 5 to a rate 100;", 0, 5)), "0:0:5:5");
        due("P46 at most what is left", lines(booked(text + "advance b 5 to a rate 100;", 0, 6)), "0:0:6:5");
        due("P46 the greatest", lines(booked(text + "advance b 999999 to a rate 100;", 0, GREATEST)), "0:0:9999999:999999");
        due("P46 each of what is left then", lines(booked(text + "advance b 99 to a rate 50;advance c 99 to a rate 50;", 0, 10)),
                "0:0:10:7");
        due("P46 by number", advances(booked(text + "advance b 9 to a rate 100;advance c 9 to a rate 100;", 0, 10)), "0 8");
        due("P46 nothing left for the second", advances(booked(text + "advance b 9 to a rate 100;advance c 9 to a rate 100;", 0,
                9)), "0 9");
        String on = text + "advance b 9 to a rate 100 on v;advance c 9 to a rate 50;";
        due("P46 not on another work", advances(booked(on, 0, 10)), "9 4");
        due("P46 on its work", advances(booked(on, 1, 10)), "0 9");
        RoyaltyOffice x = booked(text + "advance b 5 to a rate 50;advance c 99 to a rate 50;", 0, 10);
        due("P46 recouped just now", x.advance(0, 5) + " " + lines(x), "0 0:0:10:7");
        x.income(0, 10);
        due("P46 not of an advance that is recouped", lines(x) + " " + x.balance(1), "0:0:10:5 5");
        RoyaltyOffice both = booked(text + "advance b 9 to a rate 100;advance c 9 to b rate 100;", 0, 5);
        due("P46 what is returned is no earning", both.balance(1) + " " + both.total(1, 0) + " " + both.advance(1, 5) + " "
                + both.lines(), "5 0 9 1");
        RoyaltyOffice lines = booked("payee a;payee b;payee c;work w by a 50 b 50;assign b in w to a 100 from 0 until 9;"
                + "advance c 6 to a rate 100;", 0, 8);
        due("P46 from line to line", lines(lines) + " " + lines.balance(0) + " " + lines.balance(2), "0:0:4:4 0:0:4:2 2 6");
        RoyaltyOffice twelve = full();
        twelve.pass(9999);
        twelve.income(0, GREATEST);
        due("P46 twelve advances at once", twelve.line(0, 3) + " " + twelve.owed(9) + " " + twelve.balance(0) + " "
                + twelve.firstOpen(9), "9700000 2299988 9800000 9");
    }

    private static String advances(RoyaltyOffice x) {
        return x.advance(0, 5) + " " + x.advance(1, 5);
    }

    private static void p46Lines() {
        RoyaltyOffice x = full();
        due("P46 the most lines of these works", x.income(11, GREATEST), 32);
        due("P46 a cent", x.income(11, 1) + " " + lines(x), "1 11:0:1:0");
        RoyaltyOffice most = longOffice(mostLines());
        due("P46 a line of each share of each work, and of each assignment", most.income(11, GREATEST), 12 * 4 + 16);
        due("P36 the last of all lines", most.line(63, 0) + " " + most.line(63, 1), "0 3");
        refused("P36 beyond all lines", IOOBE, () -> most.line(64, 0));
        due("P52 a report of all lines", most.reportLines(), report(most, true).length());
        String last = report(most, true);
        due("P52 all lines", last.split("\n").length + " " + last.endsWith("\n"), "64 true");
        due("P46 what all earn together", most.total(0, 0) + most.total(1, 0) + most.total(2, 0) + most.total(3, 0), GREATEST);
        RoyaltyOffice future = office(TEXT);
        future.pass(9);
        future.income(0, 100);
        due("P46 on the day before a split", lines(future), "0:2:15:0 0:0:45:45 0:1:40:0");
        future.pass(1);
        future.income(0, 100);
        due("P46 on the day of a split", lines(future), "0:2:100:0");
    }

    /** A chain of twelve works, so that an income of the last one comes to all, with sixteen assignments. */
    private static String mostLines() {
        StringBuilder text = new StringBuilder("payee aaaaaaaa;payee bbbbbbbb;payee cccccccc;payee dddddddd;");
        String shares = "by aaaaaaaa 25 bbbbbbbb 25 cccccccc 25 dddddddd 25;";
        text.append("work worksswa ").append(shares);
        for (char c = 'b'; c <= 'l'; c++) {
            text.append("cover workssw").append(c).append(" of workssw").append((char) (c - 1)).append(" 60 ").append(shares);
        }
        return text.append(many("assign aaaaaaaa in worksswl to bbbbbbbb 5 from 0 until 9;", 0, 16)).toString();
    }

    // ---- changes

    private static void p47Pass() {
        RoyaltyOffice x = new RoyaltyOffice();
        due("P47 no days", x.pass(0) + " " + x.undo(), "0 0");
        due("P47 all days at once", x.pass(9999) + " " + x.pass(0), "9999 9999");
        Scene last = after(RoyaltyOffice::new, y -> y.pass(9999));
        refusedWithoutChange("P47 a day beyond the last", IAE, last, y -> y.pass(1));
        refusedWithoutChange("P47 a day back", IAE, last, y -> y.pass(-1));
        refusedWithoutChange("P47 10000 days", IAE, RoyaltyOffice::new, y -> y.pass(10000));
        Scene second = after(RoyaltyOffice::new, y -> y.pass(1));
        due("P47 to the last day", second.make().pass(9998), 9999);
        refusedWithoutChange("P47 9999 days from day 1", IAE, second, y -> y.pass(9999));
    }

    private static void p48Revert() {
        Scene scene = () -> office(PEOPLE + "work w by anna 100;assign anna in w to cy 10 from 5 until 8;"
                + "assign anna in w to cy 10 from 0 until 1;");
        for (int day : new int[] {MIN, -1, 0, 4, 5, 8, 9, MAX}) {
            refusedWithoutChange("P48 from 5 until 8, on day 0, to " + day, IAE, scene, x -> x.revert(0, day));
        }
        due("P48 a day after the first", scene.make().revert(0, 6), 8);
        due("P48 a day ahead of the second", scene.make().revert(0, 7), 8);
        for (int day = 0; day <= 1; day++) {
            int to = day;
            refusedWithoutChange("P48 of one day, to " + day, IAE, scene, x -> x.revert(1, to));
        }
        Scene seventh = after(scene, x -> x.pass(7));
        due("P48 to the present day", seventh.make().revert(0, 7), 8);
        refusedWithoutChange("P48 to the day before", IAE, seventh, x -> x.revert(0, 6));
        Scene eighth = after(scene, x -> x.pass(8));
        for (int day = 6; day <= 9; day++) {
            int to = day;
            refusedWithoutChange("P48 on its second day, to " + day, IAE, eighth, x -> x.revert(0, to));
        }
        RoyaltyOffice x = seventh.make();
        due("P48 in force until then", x.assignment(0, 6) + " " + x.left(0, 0) + " " + x.nextReversion(), "1 10 8");
        x.revert(0, 7);
        due("P48 reverted today", x.assignment(0, 6) + " " + x.left(0, 0) + " " + x.nextReversion() + " "
                + x.revertingWithin(9999), "0 0 -1 0");
        RoyaltyOffice y = scene.make();
        y.revert(0, 7);
        due("P48 its previous second day", y.revert(0, 6) + " " + y.assignment(0, 5) + " " + y.undo() + " "
                + y.assignment(0, 5), "7 6 1 7");
    }

    private static void p49SetLeast() {
        RoyaltyOffice x = office("payee a least 99999;payee b;work w by b 100;");
        due("P49 the previous one", x.setLeast(0, 0) + " " + x.setLeast(0, 99999) + " " + x.setLeast(0, 1) + " "
                + x.least(0), "99999 0 99999 1");
        due("P49 of another payee", x.least(1) + " " + x.setLeast(1, 0), "0 0");
        x.income(0, 5);
        x.setLeast(1, 6);
        due("P49 P34 a cent too great", x.payable(), 0);
        x.setLeast(1, 5);
        due("P49 P34 just the balance", x.payable(), 2);
    }

    private static void p50Close() {
        due("P50 without payees", office("").close(), 0L);
        RoyaltyOffice x = office("payee a;payee b least 10;work v by a 100;work w by b 100;");
        due("P50 nothing to pay", x.close() + " " + x.count(5) + " " + x.count(6), "0 1 1");
        x.income(1, 9);
        due("P50 less than the least balance", x.close() + " " + x.balance(1) + " " + x.statement(0, 1, 4), "0 9 9");
        x.income(1, 1);
        due("P50 just the least balance", x.close() + " " + x.balance(1) + " " + x.statement(0, 1, 3) + " "
                + x.statement(0, 1, 4) + " " + x.statement(0, 1, 0), "10 0 10 0 1");
        x.income(0, 1);
        x.income(1, 10);
        due("P50 to all payees together", x.close() + " " + x.total(0, 3) + " " + x.total(1, 3), "11 1 20");
        due("P50 a period without income", x.close() + " " + x.statement(0, 0, 0) + " " + x.statement(0, 0, 3), "0 0 0");
        due("P50 the present day stays", x.count(4) + " " + x.lines(), "0 1");
        RoyaltyOffice ten = office(many("payee p#;", 0, 10) + "work w by pa 25 pb 25 pc 25 pj 25;");
        ten.income(0, GREATEST);
        due("P50 the tenth payee", ten.close() + " " + ten.statement(0, 9, 3), "9999999 2499999");
        RoyaltyOffice great = office("payee a;work w by a 100;");
        for (int k = 0; k < 60; k++) {
            script(great, "repeat 20(income w 999999;income w 999999;);");
        }
        due("P50 more than an int holds", great.balance(0) + " " + great.close() + " " + great.total(0, 3),
                "2399997600 2399997600 2399997600");
    }

    // ---- reports

    private static void p51And52Reports() {
        RoyaltyOffice x = new RoyaltyOffice();
        due("P51 P52 nothing", x.report() + " " + x.reportLines(), "0 0");
        refused("P53 a report without bytes", IOOBE, () -> x.reportByte(0));
        RoyaltyOffice y = office("payee a;payee abcdefgh least 9;work w by a 100;advance abcdefgh 999999 to a rate 1;");
        due("P51 names of 1 and 8 letters", report(y, false), "a:0 999999\nabcdefgh:0 0\n");
        due("P52 no income", y.reportLines(), 0);
        refused("P53 in place of the one before", IOOBE, () -> y.reportByte(0));
        y.income(0, 99);
        due("P52 nothing withheld", report(y, true), "w a 99\n");
        y.income(0, 100);
        due("P52 a cent withheld", report(y, true), "w a 100-1\n");
        due("P51 numbers of several digits", report(y, false), "a:198 999998\nabcdefgh:1 0\n");
        y.income(0, 5);
        due("P52 the number of its bytes", y.reportLines() + " " + latestReport(y), "6 w a 5\n$");
        due("P51 the number of its bytes, in place of a shorter one", y.report() + " " + latestReport(y),
                "26 a:203 999998\nabcdefgh:1 0\n$");
        due("P52 in place of a longer one", y.reportLines() + " " + latestReport(y), "6 w a 5\n$");
        StringBuilder ten = new StringBuilder();
        for (char c = 'a'; c <= 'j'; c++) {
            ten.append("payee").append(c).append(c).append(c == 'j' ? ":0 11999988\n" : ":0 0\n");
        }
        due("P51 ten payees", report(full(), false), ten);
        RoyaltyOffice great = office("payee abcdefgh;payee b;work zzzzzzzz by abcdefgh 100;"
                + many("advance b 999999 to abcdefgh rate 1 on zzzzzzzz;", 0, 12));
        due("P51 the greatest owed amount", report(great, false), "abcdefgh:0 11999988\nb:0 0\n");
        great.income(0, GREATEST);
        due("P52 the longest line", report(great, true), "zzzzzzzz abcdefgh 9999999-1136146\n");
        RoyaltyOffice long64 = office("payee a;work w by a 100;");
        for (int k = 0; k < 60; k++) {
            script(long64, "repeat 20(income w 999999;income w 999999;);");
        }
        due("P51 a balance beyond an int", report(long64, false), "a:2399997600 0\n");
        changesNothingButReport("P51", RoyaltyOffice::report);
        changesNothingButReport("P52", RoyaltyOffice::reportLines);
    }

    private static void changesNothingButReport(String what, Act report) {
        String after = everything(after(Checks::rich, report));
        RoyaltyOffice x = rich();
        report.on(x);
        due(what + " changes nothing but the report", after.replace(latestReport(x), "report"),
                everything(Checks::rich).replace(latestReport(rich()), "report"));
    }

    private static void p53ReportByte() {
        refused("P53 no report", IOOBE, () -> new RoyaltyOffice().reportByte(0));
        RoyaltyOffice x = office("payee a;");
        int length = x.report();
        due("P53 the first and the last byte", x.reportByte(0) + " " + x.reportByte(length - 1) + " " + length, "97 10 6");
        refused("P53 behind the last", IOOBE, () -> x.reportByte(length));
        refused("P53 ahead of the first", IOOBE, () -> x.reportByte(-1));
        feed(x, "#");
        refused("P4 an error", IAE, x::readText);
        x.close();
        x.undo();
        x.save();
        x.restore();
        x.readText();
        due("P53 all else leaves the report", latestReport(x), "a:0 0\n$");
    }

    // ---- undo, a saved office

    private static void p54Undo() {
        Act[] changes = {x -> x.amend(), x -> x.income(0, 1), x -> x.pass(0), x -> x.revert(0, 9), x -> x.setLeast(0, 0),
            x -> x.close(), x -> x.runScript(), x -> amend(x, "payee dora;"), x -> script(x, "pass 1;close;"),
            x -> x.pass(1), x -> x.income(2, GREATEST), x -> x.setLeast(1, 99999), x -> script(x, "income song 0;")};
        for (int i = 0; i < changes.length; i++) {
            Act change = changes[i];
            Scene fresh = () -> office(TEXT);
            RoyaltyOffice x = after(fresh, change).make();
            due("P54 change " + i + " can be undone", x.undo() + " " + state(x), 0 + " " + state(fresh.make()));
            due("P54 and no more", x.undo(), NONE);
            RoyaltyOffice y = after(Checks::bare, change).make();
            due("P54 change " + i + ", the sixth", y.undo() + state(y), 4 + state(bare()));
        }
        Act[] others = {x -> x.save(), x -> x.report(), x -> x.reportLines(), x -> x.feed(0, 0, 0, 0, 0), x -> x.truncate(0),
            x -> x.wouldGrow(0, 1, 0), x -> x.amountToRecoup(0, 0, 9), x -> x.bestDay(0, 1, 0)};
        for (int i = 0; i < others.length; i++) {
            RoyaltyOffice x = after(() -> office(TEXT), others[i]).make();
            due("P54 other call " + i + " can't be undone", x.undo(), NONE);
        }
        RoyaltyOffice x = new RoyaltyOffice();
        for (int n = 1; n <= 12; n++) {
            x.pass(1);
        }
        due("P54 the latest five", x.undo() + " " + x.undo() + " " + x.undo() + " " + x.undo() + " " + x.undo() + " "
                + x.count(4), "4 3 2 1 0 7");
        due("P54 no sixth, and nothing changes", x.undo() + " " + x.count(4) + " " + x.undo(), "-1 7 -1");
        x.pass(1);
        x.pass(1);
        due("P54 an undo between", x.undo() + " " + x.count(4), "1 8");
        x.pass(20);
        due("P54 in its place", x.undo() + " " + x.count(4) + " " + x.undo() + " " + x.count(4) + " " + x.undo(), "1 8 0 7 -1");
        changesNothing("P54 none to undo", () -> office(TEXT), RoyaltyOffice::undo);
        RoyaltyOffice five = new RoyaltyOffice();
        for (int n = 0; n < 5; n++) {
            five.close();
        }
        due("P54 just five", five.undo() + " " + five.undo() + " " + five.undo() + " " + five.undo() + " " + five.undo() + " "
                + five.count(6) + " " + five.undo(), "4 3 2 1 0 0 -1");
        x.pass(1);
        feed(x, "");
        x.readText();
        due("P54 P4 readText forgets them", x.undo(), NONE);
        x.save();
        x.pass(1);
        x.restore();
        due("P54 P56 restore forgets them", x.undo(), NONE);
        x.pass(1);
        due("P54 later ones can be undone", x.undo() + " " + x.undo(), "0 -1");
    }

    // All is as before but the report, the buffer, the error and what is saved.
    private static void p54WhatStays() {
        Scene undone = after(Checks::rich, x -> {
            x.pass(1);
            return x.undo();
        });
        due("P54 the error stays", error(undone.make()), error(rich()));
        due("P54 the buffer stays", buffered(undone.make()), 18);
        due("P54 the report stays", latestReport(undone.make()), latestReport(rich()));
        RoyaltyOffice x = rich();
        x.undo();
        RoyaltyOffice y = rich();
        due("P54 what is saved stays", x.restore() + state(x), y.restore() + state(y));
        RoyaltyOffice saved = office(TEXT);
        saved.pass(3);
        saved.save();
        saved.undo();
        due("P54 P55 what was saved is not undone", saved.count(4) + " " + saved.restore(), "0 3");
    }

    private static void p55Save() {
        RoyaltyOffice x = new RoyaltyOffice();
        due("P55 the first day", x.save(), 0);
        x.pass(9999);
        due("P55 the last day, in place of the first", x.save() + " " + x.undo() + " " + x.restore(), "9999 0 9999");
        changesNothing("P55 saved again", after(Checks::rich, y -> y.save()), y -> y.save());
        RoyaltyOffice y = bare();
        String state = state(y);
        y.save();
        y.income(2, GREATEST);
        y.close();
        y.pass(9);
        amend(y, "payee dora;work new by dora 100;");
        due("P55 P56 all is saved", y.restore() + state(y), 4 + state);
        due("P55 P54 save leaves what can be undone", after(Checks::bare, z -> z.save()).make().undo(), 4);
        RoyaltyOffice empty = new RoyaltyOffice();
        empty.save();
        feed(empty, TEXT);
        empty.readText();
        due("P55 an empty office", empty.restore() + state(empty), 0 + state(new RoyaltyOffice()));
    }

    private static void p56Restore() {
        refusedWithoutChange("P56 nothing was saved", ISE, () -> {
            RoyaltyOffice x = office(TEXT);
            x.pass(1);
            x.income(2, 77);
            x.report();
            feed(x, "payee dora;");
            return x;
        }, RoyaltyOffice::restore);
        Scene restored = after(Checks::rich, RoyaltyOffice::restore);
        due("P56 the day then", rich().restore(), 3);
        due("P56 the error stays", error(restored.make()), error(rich()));
        due("P56 the buffer stays", buffered(restored.make()), 18);
        due("P56 the report stays", latestReport(restored.make()), latestReport(rich()));
        due("P56 nothing to undo", restored.make().undo(), NONE);
        changesNothing("P56 what was saved stays", restored, RoyaltyOffice::restore);
        RoyaltyOffice x = restored.make();
        String state = state(x);
        x.income(0, 5);
        x.pass(9);
        due("P56 twice", x.restore() + state(x), 3 + state);
        RoyaltyOffice y = rich();
        y.truncate(0);
        y.readText();
        due("P56 after another text", y.restore() + state(y), 3 + state);
    }

    // "An object is used for at most 512 calls": the last of them answers like the others.
    private static void calls() {
        RoyaltyOffice x = new RoyaltyOffice();
        for (int n = 1; n <= 511; n++) {
            x.close();
        }
        due("P10 P50 the 512th call", x.count(6), 511);
        RoyaltyOffice y = new RoyaltyOffice();
        for (int n = 1; n <= 511; n++) {
            y.pass(19);
        }
        due("P47 the 512th call", y.pass(290), 9999);
        RoyaltyOffice z = office("payee a;work w by a 100;");
        for (int n = 0; n < 500; n++) {
            z.income(0, GREATEST);
        }
        due("P27 P30 the greatest amounts", z.balance(0) + " " + z.came(0) + " " + z.total(0, 0) + " " + z.earnedFrom(0, 0)
                + " " + z.current(0, 0) + " " + z.part(0), "4999999500 4999999500 4999999500 4999999500 4999999500 1.0");
    }
}
