/** Each promise of the document, with the edges that it names and with wrong inputs. */
public final class PromiseTests extends Checks {
    public static void main(String[] args) {
        newObject();
        buffer();
        readText();
        amend();
        scripts();
        errors();
        limits();
        grammarOfScripts();
        count();
        payeesAndSplits();
        sourcesAndRoots();
        assignments();
        reversions();
        advances();
        income();
        incomeByDay();
        accounts();
        sets();
        lineQueries();
        statements();
        wouldBe();
        amountToRecoup();
        wouldEarnOnDays();
        changes();
        reports();
        undo();
        saving();
        constants();
        end("all promises stand");
    }

    // Promise 1
    private static void newObject() {
        RoyaltyOffice x = new RoyaltyOffice();
        due("1 state", state(x), "0 0 0 0 0 0 0 | -1 -1 0 0| ");
        due("1 error", x.errorCode() + " " + x.errorPosition() + " " + x.why(), "0 -1 0");
        refused("1 buffer", IAE, () -> x.truncate(1));
        due("1 undo", x.undo(), NONE);
        refused("1 restore", ISE, x::restore);
        refused("1 report", IOOBE, () -> x.reportByte(0));
        due("1 richest", x.richest() + " " + x.payable() + " " + x.dearestWork() + " " + x.nextReversion(), "0 0 -1 -1");
    }

    // Promises 2 and 3
    private static void buffer() {
        RoyaltyOffice x = new RoyaltyOffice();
        for (int n = 20; n <= 900; n += 20) {
            due("2 feed", x.feed(0x20202020, 0x0a0a0a0a, 0x20202020, 0x20202020, 0x20202020), n);
        }
        refused("2 full", ISE, () -> x.feed(0, 0, 0, 0, 0));
        due("2 stays", x.truncate(900), 900);
        refused("3 beyond", IAE, () -> x.truncate(901));
        refused("3 negative", IAE, () -> x.truncate(-1));
        refused("3 least", IAE, () -> x.truncate(Integer.MIN_VALUE));
        due("3 cut", x.truncate(881), 881);
        refused("2 above", ISE, () -> x.feed(0, 0, 0, 0, 0));
        due("3 cut", x.truncate(880), 880);
        due("2 to the end", x.feed(0x70617965, 0x6520616e, 0x6e61203b, 0x20202020, 0x20202020), 900);
        due("2 first byte first", x.readText(), 0);
        due("2 first byte first", x.count(0), 1);
        due("4 emptied", x.feed(0, 0, 0, 0, 0), 20);
        due("3 all", x.truncate(0), 0);
        due("2 a word of bytes above 127", x.feed(-1, 0, 0, 0, 0), 20);
        refused("2 a word of bytes above 127", IAE, x::readText);
        due("7 code", x.errorCode() + " " + x.errorPosition(), "1 0");
    }

    // Promise 4
    private static void readText() {
        RoyaltyOffice x = office(TEXT);
        due("4 office", state(office(TEXT)), state(x));
        due("4 nothing", new RoyaltyOffice().readText(), 0);
        x.pass(3);
        x.income(2, 1000);
        x.close();
        x.save();
        String before = state(x);
        x.report();
        feed(x, TEXT + "payee");
        refused("4 error", IAE, x::readText);
        due("4 error changes nothing", state(x), before);
        due("4 error keeps undo", x.undo(), 2);
        feed(x, "");
        feed(x, "payee new; work tune by new 100; work more by new 100;");
        due("4 works", x.readText(), 2);
        due("4 replaces all", x.count(0) + " " + x.count(2) + " " + x.count(3) + " " + x.count(4) + " " + x.count(5)
                + " " + x.count(6) + " " + x.lines() + " " + x.came(0), "1 0 0 0 0 0 0 0");
        due("4 forgets undo", x.undo(), NONE);
        due("4 keeps the report", (char) x.reportByte(0), 'a');
        x.restore();
        due("4 keeps what is saved", state(x), before);
        x.readText();
        due("4 empty", state(x), state(new RoyaltyOffice()));
    }

    // Promise 5
    private static void amend() {
        RoyaltyOffice x = office(TEXT);
        x.pass(50);
        x.income(2, 1000);
        long balance = x.balance(1);
        due("5 statements", amend(x, "payee dora least 7; split rock from 1 by dora 100; sample song in mix 40;"), 3);
        due("5 stays", x.balance(1) + " " + x.count(4) + " " + (x.lines() > 0), balance + " 50 true");
        due("5 adds", x.count(0) + " " + x.splits(1) + " " + x.sources(2) + " " + x.owners(1), "4 2 2 8");
        due("5 buffer", x.feed(0, 0, 0, 0, 0), 20);
        x.truncate(0);
        due("5 none", x.amend(), 0);
        String before = state(x);
        feed(x, "payee eve; payee anna;");
        refused("5 error", IAE, x::amend);
        due("5 error changes nothing", state(x), before);
        due("5 error", x.errorCode() + " " + x.errorPosition() + " " + x.why(), "4 17 0");
        due("5 error empties the buffer", x.feed(0, 0, 0, 0, 0), 20);
        x.truncate(0);
        due("5 the name is free", amend(x, "payee eve;"), 1);
        due("7 error gone", x.errorCode() + " " + x.errorPosition() + " " + x.why(), "0 -1 0");
        due("5 undo", x.undo() + " " + x.undo() + " " + x.undo(), "4 3 2");
        due("5 undone", x.count(0), 3);
    }

    // Promise 6
    private static void scripts() {
        RoyaltyOffice x = office(TEXT);
        due("6 none", x.runScript(), 0);
        due("6 commands", script(x, "income mix 1000; pass 2; least anna 9; close; revert 0 5;"), 5);
        RoyaltyOffice y = office(TEXT);
        y.income(2, 1000);
        y.pass(2);
        y.setLeast(0, 9);
        y.close();
        y.revert(0, 5);
        due("6 as the methods", state(x), state(y));
        due("6 undone as a whole", x.undo() + " " + state(x).equals(state(office(TEXT))), "1 true");
        due("6 repeats", script(x, "repeat 3 ( pass 1; repeat 2 ( pass 2; ); ); pass 1;"), 10);
        due("6 repeats", x.count(4), 16);
        due("6 forty", script(x, "repeat 20 ( repeat 20 ( pass 1; ); ); pass 9;"), 40);
        due("6 forty", x.count(4), 56);
        due("6 empty repeats", script(x, "repeat 20 ( repeat 20 ( ); ); repeat 1 ();"), 0);
        due("6 stops", script(x, "pass 1; repeat 2 ( pass 2; income song 0; pass 4; ); pass 8;"), 2);
        due("6 stops", x.count(4), 59);
        due("6 an amount of 0", script(x, "pass 1;income song 0;pass 1;"), 1);
        due("6 a pass beyond", script(x, "pass 9999; pass 1;"), 0);
        due("6 a pass beyond", script(x, "pass 10000;"), 0);
        due("6 no assignment", script(x, "close; revert 1 70; close;"), 1);
        due("6 no reversion", script(x, "close; revert 0 70; close;"), 1);
        due("6 a great least", script(x, "least bob 99999; least bob 100000; close;"), 1);
        due("6 a great least", x.least(1), 99999);
        due("6 greatest income", script(x, "income song 999999;") + " " + x.came(0), "1 999999");
        String before = state(x);
        feed(x, "pass 1; income tune 5;");
        refused("6 error", IAE, x::runScript);
        due("6 error changes nothing", state(x), before);
        due("6 error", x.errorCode() + " " + x.errorPosition() + " " + x.why(), "3 15 0");
        due("6 error empties the buffer", x.feed(0, 0, 0, 0, 0), 20);
    }

    /** A text with a sign ^ at the position of its error; it is read as it is, and as an addition. */
    private static void error(int code, int why, String marked) {
        String text = marked.replace("^", "");
        RoyaltyOffice x = new RoyaltyOffice();
        feed(x, text);
        refused("7 " + marked, IAE, x::readText);
        due("7 code of " + marked, x.errorCode(), code);
        due("8 position of " + marked, x.errorPosition(), marked.indexOf('^'));
        due("9 reason of " + marked, x.why(), why);
        due("4 nothing of " + marked, state(x), state(new RoyaltyOffice()));
        feed(x, text);
        refused("5 " + marked, IAE, x::amend);
        due("5 error of " + marked, x.errorCode() + " " + x.errorPosition() + " " + x.why(),
                code + " " + marked.indexOf('^') + " " + why);
    }

    private static void fine(String text) {
        RoyaltyOffice x = new RoyaltyOffice();
        feed(x, text);
        try {
            x.readText();
        } catch (IllegalArgumentException e) {
            due("4 " + text, x.errorCode() + " at " + x.errorPosition() + " why " + x.why(), "no error");
        }
    }

    // Promises 7 to 9, and section 1
    private static void errors() {
        fine("payee a;work b by a100;\n\nsplit b from 1by a 100 ;");
        fine("payee abcdefgh least 99999;payee b least 000000;");
        fine("");
        fine(" \n ");
        error(1, 0, "^foo;");
        error(1, 0, "^;");
        error(1, 0, "^7;");
        error(1, 0, "^Payee a;");
        error(1, 0, "^abcdefghi;");
        error(1, 0, "payee ^abcdefghi;");
        error(1, 0, "payee ^least;");
        error(1, 0, "payee ^repeat;");
        error(1, 0, "payee ^income;");
        error(1, 0, "payee ^close;");
        error(1, 0, "payee ^7;");
        error(1, 0, "payee^");
        error(1, 0, "payee a^");
        error(1, 0, "payee a \n ^");
        error(1, 0, "payee a ^7;");
        error(1, 0, "payee a least^;");
        error(1, 0, "payee a least ^1000000;");
        error(1, 0, "payee a least ^0000000;");
        error(1, 0, "payee a^,");
        error(1, 0, "payee a^\u0000");
        error(1, 0, "payee a^\t;");
        error(1, 0, "payee a^\u00e9;");
        error(1, 0, "payee a ^);");
        error(1, 0, "payee a; ^(");
        error(2, 0, "payee a least ^100000;");
        error(4, 0, "payee a; payee ^a;");
        error(4, 0, "payee a; work ^a by a 100;");
        error(4, 0, "payee a; work b by a 100; payee ^b;");
        error(4, 0, "payee a; work b by a 100; cover ^b of b 1 by a 100;");
        String head = "payee a;payee b;payee c;payee d;payee e;work v by a 100;work w by a 50 b 50;";
        error(3, 0, head + "work x by ^f 100;");
        error(3, 0, head + "work x by ^w 100;");
        error(1, 0, head + "work x ^a 100;");
        error(1, 0, head + "work x by ^100;");
        error(2, 0, head + "work x by a ^0;");
        error(2, 0, head + "work x by a ^101;");
        error(4, 0, head + "work x by a 50 ^a 50;");
        error(3, 0, head + "work x by a 25 b 25 c 25 d 24 ^f 1;");
        error(4, 0, head + "work x by a 25 b 25 c 25 d 24 ^a 1;");
        error(6, 0, head + "work x by a 25 b 25 c 25 d 24 ^e 1;");
        error(1, 0, head + "work x by a 25 b 25 c 25 d 24 ^by 1;");
        fine(head + "work x by a 25 b 25 c 25 d 25;");
        error(5, 1, head + "work x by a 25 b 25 c 25 d 24^;");
        error(5, 1, head + "work x by a 100 b 1^;");
        error(3, 0, head + "cover x of ^x 10 by a 100;");
        error(3, 0, head + "cover x of ^a 10 by a 100;");
        error(2, 0, head + "cover x of w ^0 by a 100;");
        error(2, 0, head + "cover x of w ^91 by a 100;");
        fine(head + "cover x of w 90 by a 100;");
        error(5, 1, head + "cover x of w 90 by a 99^;");
        error(3, 0, head + "sample ^a in w 5;");
        error(3, 0, head + "sample v in ^a 5;");
        error(1, 0, head + "sample v ^of w 5;");
        error(2, 0, head + "sample v in w ^0;");
        error(2, 0, head + "sample v in w ^91;");
        error(5, 3, head + "sample w in w 5^;");
        error(5, 3, head + "sample w in v 5^;");
        error(5, 3, head + "sample v in w 5; sample v in w 90^;");
        error(5, 3, head + "cover x of v 5 by a 100; sample v in x 86^;");
        error(5, 4, head + "cover x of v 50 by a 100; sample w in x 41^;");
        fine(head + "cover x of v 50 by a 100; sample w in x 40;");
        error(3, 0, head + "split ^a from 5 by a 100;");
        error(2, 0, head + "split w from ^0 by a 100;");
        error(2, 0, head + "split w from ^10000 by a 100;");
        fine(head + "split w from 9999 by a 100;");
        error(5, 1, head + "split w from 5 by a 100; split w from 5 by a 99^;");
        error(5, 2, head + "split w from 5 by a 100; split w from 5 by a 100^;");
        fine(head + "split w from 5 by a 100; split w from 6 by a 100; split v from 5 by a 100;");
        assignmentErrors(head);
        advanceErrors(head);
        order(head);
    }

    private static void assignmentErrors(String head) {
        error(3, 0, head + "assign ^f in w to b 5 from 0 until 1;");
        error(3, 0, head + "assign a in ^b to b 5 from 0 until 1;");
        error(3, 0, head + "assign a in w to ^w 5 from 0 until 1;");
        error(2, 0, head + "assign a in w to b ^0 from 0 until 1;");
        error(2, 0, head + "assign a in w to b ^101 from 0 until 1;");
        error(2, 0, head + "assign a in w to b 5 from ^10000 until 1;");
        error(2, 0, head + "assign a in w to b 5 from 0 until ^0;");
        error(2, 0, head + "assign a in w to b 5 from 0 until ^10000;");
        error(5, 5, head + "assign a in w to a 5 from 0 until 1^;");
        error(5, 5, head + "assign a in w to b 5 from 1 until 1^;");
        error(5, 5, head + "assign a in w to b 100 from 0 until 9; assign a in w to a 5 from 0 until 1^;");
        fine(head + "assign c in w to b 100 from 0 until 9999;");
        String some = head + "assign a in w to b 60 from 5 until 10; assign a in w to c 40 from 10 until 20;";
        fine(some + "assign a in w to d 40 from 0 until 10; assign a in w to e 60 from 10 until 30;");
        error(5, 6, some + "assign a in w to d 41 from 0 until 6^;");
        error(5, 6, some + "assign a in w to d 61 from 0 until 9999^;");
        error(5, 6, some + "assign a in w to d 61 from 19 until 20^;");
        fine(some + "assign a in w to d 61 from 20 until 25;assign a in v to d 99 from 0 until 25;"
                + "assign b in w to d 99 from 0 until 25;");
    }

    private static void advanceErrors(String head) {
        error(3, 0, head + "advance ^w 5 to b rate 5;");
        error(2, 0, head + "advance a ^0 to b rate 5;");
        fine(head + "advance a 999999 to b rate 100 on v;");
        error(3, 0, head + "advance a 5 to ^f rate 5;");
        error(1, 0, head + "advance a 5 to b ^5;");
        error(2, 0, head + "advance a 5 to b rate ^0;");
        error(2, 0, head + "advance a 5 to b rate ^101;");
        error(3, 0, head + "advance a 5 to b rate 5 on ^a;");
        error(1, 0, head + "advance a 5 to b rate 5 on^;");
        error(5, 7, head + "advance a 5 to a rate 5^;");
    }

    /** The first error counts, in the order of the tokens. */
    private static void order(String head) {
        error(2, 0, head + "work x by a ^0 b 101; foo ABC");
        error(5, 1, head + "work x by a 1^; payee a;");
        error(3, 0, head + "work x by a 1 ^foo bar;");
        error(1, 0, head + "work x by a 1 ^to bar");
    }

    // The limits of code 6
    private static void limits() {
        String ten = many("payee p#;", 0, 10);
        fine(ten);
        error(6, 0, ten + "^payee pa;");
        String twelve = "payee p;" + many("work w# by p100;", 0, 12);
        fine(twelve);
        error(6, 0, twelve + "^work wa by p 100;");
        error(6, 0, twelve + "^cover wa of wa 1 by p 100;");
        String sampled = "payee p;" + many("work w# by p100;", 0, 5)
                + "sample wa in we 1;sample wb in we 2;sample wc in we 3;";
        fine(sampled);
        error(6, 0, sampled + "sample wd in ^we 1;");
        error(6, 0, sampled + "sample we in ^we 100;");
        String split = "payee p;work w by p 100;split w from 1 by p 100;split w from 2 by p 100;split w from 3 by p 100;";
        fine(split);
        error(6, 0, split + "split ^w from 3 by p 100;");
        RoyaltyOffice x = office("payee p;payee q;work w by p 100;");
        due("5 16 assignments", amend(x, many("assign p in w to q 1 from 0 until 9;", 0, 16)), 16);
        feed(x, "payee r;  assign q in w to p 1 from 0 until 9;");
        refused("5 a 17th assignment", IAE, x::amend);
        due("7 a 17th assignment", x.errorCode() + " " + x.errorPosition(), "6 10");
        due("5 12 advances", amend(x, many("advance p 1 to q rate 1;", 0, 12)), 12);
        feed(x, "advance p 1 to q rate 1;");
        refused("5 a 13th advance", IAE, x::amend);
        due("7 a 13th advance", x.errorCode() + " " + x.errorPosition(), "6 0");
    }

    private static void scriptError(int code, String marked) {
        RoyaltyOffice x = office("payee a;work w by a 100;");
        String before = state(x);
        feed(x, marked.replace("^", ""));
        refused("6 " + marked, IAE, x::runScript);
        due("7 error of " + marked, x.errorCode() + " " + x.errorPosition() + " " + x.why(),
                code + " " + marked.indexOf('^') + " 0");
        due("6 nothing of " + marked, state(x), before);
        due("6 no undo of " + marked, x.undo(), NONE);
    }

    // Section 7
    private static void grammarOfScripts() {
        scriptError(1, "^payee b;");
        scriptError(1, "^w;");
        scriptError(1, "close^");
        scriptError(1, "close; ^)");
        scriptError(1, "repeat 2 ( close; ^");
        scriptError(1, "repeat 2 ( close ^);");
        scriptError(1, "repeat 2 ^close;");
        scriptError(1, "repeat 2 ( )^");
        scriptError(1, "repeat 2 ( ) ^close;");
        scriptError(1, "pass ^w;");
        scriptError(1, "pass ^1000000;");
        scriptError(1, "revert 1^;");
        scriptError(1, "income ^pass 1;");
        scriptError(1, "income w^;");
        scriptError(2, "repeat ^0 ( );");
        scriptError(2, "repeat ^21 ( );");
        scriptError(3, "income ^a 1;");
        scriptError(3, "least ^w 1;");
        scriptError(4, "repeat 1 ( repeat 1 ( ^repeat 1 ( ); ); );");
        String thirty = "repeat 2 (" + many("close;", 0, 14) + ");" + many("pass 0;", 0, 15);
        RoyaltyOffice x = office("payee a;work w by a 100;");
        due("6 thirty commands", script(x, thirty), 40);
        scriptError(6, thirty + " ^pass 0;");
        scriptError(6, thirty + " ^repeat 1 ( );");
        scriptError(4, "repeat 1 ( repeat 1 (" + many("close;", 0, 28) + " ^repeat 1 ();););");
    }

    // Promise 10
    private static void count() {
        RoyaltyOffice x = office(TEXT);
        due("10 counts", x.count(0) + " " + x.count(1) + " " + x.count(2) + " " + x.count(3), "3 3 1 2");
        x.pass(4);
        for (int n = 1; n <= 7; n++) {
            x.close();
            due("10 statements", x.count(5), Math.min(n, 5));
            due("10 periods", x.count(6), n);
        }
        due("10 day", x.count(4), 4);
        refused("10 below", IAE, () -> x.count(-1));
        refused("10 above", IAE, () -> x.count(7));
    }

    // Promises 11 to 15
    private static void payeesAndSplits() {
        RoyaltyOffice x = office(TEXT + "split song from 12 by bob 1 cy 99;");
        due("11 least", x.least(0) + " " + x.least(1), "0 500");
        refused("11 payee", IOOBE, () -> x.least(3));
        refused("11 payee", IOOBE, () -> x.least(-1));
        due("12 splits", x.splits(0) + " " + x.splits(1), "3 1");
        refused("12 work", IOOBE, () -> x.splits(3));
        refused("12 work", IOOBE, () -> x.splits(-1));
        due("13 days", x.splitOn(0, 0) + " " + x.splitOn(0, 9) + " " + x.splitOn(0, 10) + " " + x.splitOn(0, 11) + " "
                + x.splitOn(0, 12) + " " + x.splitOn(0, 9999) + " " + x.splitOn(1, 9999), "0 0 1 1 2 2 0");
        refused("13 work", IOOBE, () -> x.splitOn(3, -1));
        refused("13 day", IAE, () -> x.splitOn(0, -1));
        refused("13 day", IAE, () -> x.splitOn(0, 10000));
        due("14 share", x.share(0, 0, 0) + " " + x.share(0, 0, 1) + " " + x.share(0, 0, 2) + " " + x.share(0, 2, 2),
                "60 40 0 99");
        refused("14 work", IOOBE, () -> x.share(3, 0, 0));
        refused("14 split", IOOBE, () -> x.share(0, 3, 0));
        refused("14 split", IOOBE, () -> x.share(0, -1, 0));
        refused("14 split", IOOBE, () -> x.share(1, 1, 0));
        refused("14 payee", IOOBE, () -> x.share(0, 0, 3));
        due("15 owners", x.owners(0) + " " + x.owners(1) + " " + x.owners(2), "3 2 7");
        x.pass(10);
        due("15 owners", x.owners(0), 4);
        x.pass(2);
        due("15 owners", x.owners(0), 6);
        refused("15 work", IOOBE, () -> x.owners(-1));
    }

    // Promises 16 to 19
    private static void sourcesAndRoots() {
        RoyaltyOffice x = office("payee a;work t by a 100;work u by a 100;work v by a 100;cover w of u 10 by a 100;"
                + "cover x of w 20 by a 100;sample v in x 30;sample t in x 40;");
        due("16 sources", x.sources(0) + " " + x.sources(3) + " " + x.sources(4), "0 1 3");
        due("17 source", x.source(4, 0, 0) + " " + x.source(4, 0, 1) + " " + x.source(4, 1, 0) + " "
                + x.source(4, 1, 1) + " " + x.source(4, 2, 0) + " " + x.source(4, 2, 1), "3 20 2 30 0 40");
        refused("17 work", IOOBE, () -> x.source(5, 0, 2));
        refused("17 source", IOOBE, () -> x.source(4, 3, 2));
        refused("17 source", IOOBE, () -> x.source(4, -1, 0));
        refused("17 source", IOOBE, () -> x.source(0, 0, 0));
        refused("17 what", IAE, () -> x.source(4, 0, 2));
        refused("17 what", IAE, () -> x.source(4, 0, -1));
        due("18 roots", x.roots(0) + " " + x.roots(3) + " " + x.roots(4), "0 2 15");
        due("19 offspring", x.offspring(0) + " " + x.offspring(1) + " " + x.offspring(2) + " " + x.offspring(3) + " "
                + x.offspring(4), "16 24 16 16 0");
        refused("16 work", IOOBE, () -> x.sources(5));
        refused("18 work", IOOBE, () -> x.roots(5));
        refused("19 work", IOOBE, () -> x.offspring(-1));
    }

    // Promises 20 and 21
    private static void assignments() {
        RoyaltyOffice x = office(PEOPLE + "work w by anna 100;work v by anna 100;"
                + "assign anna in w to cy 25 from 2 until 4;assign anna in w to bob 30 from 3 until 9;"
                + "assign anna in v to bob 7 from 0 until 9;assign bob in w to cy 8 from 0 until 9;");
        due("20 row", x.assignment(0, 0) + " " + x.assignment(0, 1) + " " + x.assignment(0, 2) + " "
                + x.assignment(0, 3) + " " + x.assignment(0, 4) + " " + x.assignment(0, 5), "0 0 2 25 2 4");
        StringBuilder force = new StringBuilder();
        StringBuilder left = new StringBuilder();
        for (int day = 0; day < 10; day++) {
            force.append(x.assignment(0, 6));
            left.append(x.left(0, 0)).append(' ');
            x.pass(1);
        }
        due("20 in force", force, "0011000000");
        due("21 left", left, "0 0 25 55 30 30 30 30 30 0 ");
        x.undo();
        x.undo();
        due("21 left", x.left(1, 0) + " " + x.left(0, 1) + " " + x.left(0, 2), "7 8 0");
        refused("20 assignment", IOOBE, () -> x.assignment(4, 7));
        refused("20 assignment", IOOBE, () -> x.assignment(-1, 0));
        refused("20 what", IAE, () -> x.assignment(0, 7));
        refused("20 what", IAE, () -> x.assignment(0, -1));
        refused("21 work", IOOBE, () -> x.left(2, 0));
        refused("21 payee", IOOBE, () -> x.left(0, 3));
    }

    // Promises 22 and 23
    private static void reversions() {
        RoyaltyOffice x = office(PEOPLE + "work w by anna 100;assign anna in w to cy 5 from 2 until 9;"
                + "assign anna in w to cy 5 from 2 until 4;assign anna in w to cy 5 from 50 until 60;");
        due("22 next", x.nextReversion(), 4);
        due("23 within", x.revertingWithin(0) + " " + x.revertingWithin(3) + " " + x.revertingWithin(4) + " "
                + x.revertingWithin(59) + " " + x.revertingWithin(60) + " " + x.revertingWithin(9999), "0 0 1 2 3 3");
        x.pass(4);
        due("22 next", x.nextReversion(), 9);
        due("23 within", x.revertingWithin(0) + " " + x.revertingWithin(5) + " " + x.revertingWithin(9999), "0 1 2");
        x.pass(56);
        due("22 none", x.nextReversion(), NONE);
        due("23 none", x.revertingWithin(9999), 0);
        refused("23 days", IAE, () -> x.revertingWithin(-1));
        refused("23 days", IAE, () -> x.revertingWithin(10000));
    }

    // Promises 24 to 26
    private static void advances() {
        RoyaltyOffice x = office(TEXT);
        due("24 row", x.advance(1, 0) + " " + x.advance(1, 1) + " " + x.advance(1, 2) + " " + x.advance(1, 3) + " "
                + x.advance(1, 4) + " " + x.advance(1, 5), "2 0 30 100 0 30");
        due("24 on no work", x.advance(0, 4), NONE);
        due("25 owed", x.owed(0) + " " + x.owed(1) + " " + x.owed(2), "130 0 0");
        due("26 first", x.firstOpen(0) + " " + x.firstOpen(2), "0 -1");
        x.income(2, 1000);
        x.income(2, 1000);
        due("24 left", x.advance(0, 2) + " " + x.advance(0, 5), "100 0");
        due("26 next", x.firstOpen(0) + " " + x.owed(0), x.advance(1, 5) > 0 ? "1 " + x.advance(1, 5) : "-1 0");
        refused("24 advance", IOOBE, () -> x.advance(2, 6));
        refused("24 advance", IOOBE, () -> x.advance(-1, 0));
        refused("24 what", IAE, () -> x.advance(0, 6));
        refused("24 what", IAE, () -> x.advance(0, -1));
        refused("25 payee", IOOBE, () -> x.owed(3));
        refused("26 payee", IOOBE, () -> x.firstOpen(-1));
    }

    // Promise 46, with sections 2 and 3
    private static void income() {
        RoyaltyOffice x = office(TEXT);
        // mix 1001: rock gets 500, 501 remain: 170 165 165 and a cent for the first; rock 500: song gets 100.
        due("46 lines", x.income(2, 1001), 7);
        due("46 order", lines(x), "2:0:171:85 2:1:165:0 2:2:165:0 1:1:400:0 0:2:15:0 0:0:45:45 0:1:40:0");
        due("46 returned", x.total(2, 2) + " " + x.owed(0) + " " + x.balance(2), "130 0 310");
        RoyaltyOffice cents = office("payee a;payee b;payee c;payee d;work w by a 25 b 25 c 25 d 25;");
        cents.income(0, 3);
        due("46 cents", lines(cents), "0:0:1:0 0:1:1:0 0:2:1:0");
        cents.income(0, 4);
        due("46 cents", lines(cents), "0:0:1:0 0:1:1:0 0:2:1:0 0:3:1:0");
        cents.income(0, 107);
        due("46 cents", lines(cents), "0:0:27:0 0:1:27:0 0:2:27:0 0:3:26:0");
        RoyaltyOffice parts = office("payee a;payee b;payee c;work w by a 90 b 10;assign a in w to b 50 from 0 until 9;"
                + "assign b in w to c 100 from 0 until 9;assign a in w to c 50 from 0 until 9;");
        parts.income(0, 101);
        // a's 91: b and c get 45 each, a keeps 1; b's 10 go to c, and b gets no line of its own.
        due("46 assigned", lines(parts), "0:1:45:0 0:2:45:0 0:0:1:0 0:2:10:0");
        parts.pass(8);
        parts.income(0, 1);
        due("46 no lines of 0 cents", lines(parts), "0:0:1:0");
        parts.undo();
        due("46 greatest", parts.income(0, 9999999) + " " + parts.came(0), "3 10000100");
        RoyaltyOffice kept = office("payee a;payee b;payee c;work w by a 100;work v by a 100;"
                + "advance b 1000 to a rate 50;advance c 1000 to a rate 50 on v;advance b 10 to a rate 100;"
                + "advance c 5 to b rate 100;");
        kept.income(0, 101);
        due("46 kept", lines(kept), "0:0:101:60");
        due("46 kept", kept.advance(0, 5) + " " + kept.advance(1, 5) + " " + kept.advance(2, 5), "950 1000 0");
        due("46 a return is no earning", kept.balance(1) + " " + kept.total(1, 0) + " " + kept.advance(3, 5), "60 0 5");
        kept.income(1, 100);
        due("46 kept on a work", lines(kept), "1:0:100:75");
        refused("46 work", IOOBE, () -> x.income(3, 0));
        refused("46 work", IOOBE, () -> x.income(-1, 5));
        refused("46 amount", IAE, () -> x.income(0, 0));
        refused("46 amount", IAE, () -> x.income(0, 10000000));
        due("46 nothing changes", x.lines() + " " + x.undo(), "7 0");
    }

    private static void incomeByDay() {
        RoyaltyOffice x = office(TEXT);
        x.pass(9);
        x.income(0, 100);
        due("46 the last day", lines(x), "0:2:15:0 0:0:45:45 0:1:40:0");
        x.pass(1);
        x.income(0, 100);
        due("46 the next split", lines(x), "0:2:100:0");
    }

    // Promises 27 to 32
    private static void accounts() {
        RoyaltyOffice x = office(TEXT);
        due("31 none", x.dearestWork(), NONE);
        due("32 none", x.part(0), 0.0f);
        x.income(2, 1001);
        due("27 balances", x.balance(0) + " " + x.balance(1) + " " + x.balance(2), "86 605 310");
        due("28 totals", x.total(0, 0) + " " + x.total(0, 1) + " " + x.total(2, 2) + " " + x.total(1, 3), "216 130 130 0");
        due("29 from", x.earnedFrom(0, 2) + " " + x.earnedFrom(0, 0) + " " + x.earnedFrom(0, 1), "171 45 0");
        due("30 came", x.came(0) + " " + x.came(1) + " " + x.came(2), "100 500 1001");
        due("31 dearest", x.dearestWork(), 2);
        x.income(0, 901);
        due("31 the lowest of several", x.dearestWork(), 0);
        x.undo();
        due("32 part", x.part(0), (float) 216 / (float) 1001);
        due("32 all", x.part(1), 605f / 1001f);
        due("50 paid", x.close(), 1001);
        due("28 paid", x.total(1, 3) + " " + x.balance(1), "605 0");
        refused("27 payee", IOOBE, () -> x.balance(3));
        refused("28 payee", IOOBE, () -> x.total(3, 4));
        refused("28 what", IAE, () -> x.total(0, 4));
        refused("28 what", IAE, () -> x.total(0, -1));
        refused("29 payee", IOOBE, () -> x.earnedFrom(3, 0));
        refused("29 work", IOOBE, () -> x.earnedFrom(0, 3));
        refused("30 work", IOOBE, () -> x.came(3));
        refused("32 payee", IOOBE, () -> x.part(-1));
    }

    // Promises 33 and 34
    private static void sets() {
        RoyaltyOffice x = office("payee a least 50;payee b;payee c least 51;work w by a 50 c 50;");
        due("33 all", x.richest(), 7);
        due("34 none", x.payable(), 0);
        x.income(0, 100);
        due("33 two", x.richest(), 5);
        due("34 at least", x.payable(), 1);
        x.income(0, 1);
        due("33 one", x.richest(), 1);
        x.income(0, 3);
        due("34 both", x.payable(), 5);
        x.close();
        due("34 paid", x.payable() + " " + x.richest(), "0 7");
    }

    // Promises 35 and 36
    private static void lineQueries() {
        RoyaltyOffice x = office(TEXT);
        due("35 none", x.lines(), 0);
        refused("36 none", IOOBE, () -> x.line(0, 4));
        x.income(2, 1001);
        due("35 lines", x.lines(), 7);
        due("36 line", x.line(5, 0) + " " + x.line(5, 1) + " " + x.line(5, 2) + " " + x.line(5, 3), "0 0 45 45");
        refused("36 beyond", IOOBE, () -> x.line(7, 0));
        refused("36 beyond", IOOBE, () -> x.line(-1, 4));
        refused("36 what", IAE, () -> x.line(0, 4));
        refused("36 what", IAE, () -> x.line(0, -1));
        x.income(1, 1);
        due("35 the latest", x.lines(), 1);
        script(x, "income mix 1001; income song 50;");
        due("35 of a script", x.lines(), 3);
        RoyaltyOffice most = office("payee a;payee b;payee c;payee d;" + many("work w# by a 25 b 25 c 25 d 25;", 0, 12));
        amend(most, many("sample w# in wl 30;", 0, 3) + many("sample w# in wk 30;", 2, 5)
                + many("sample w# in wc 30;", 0, 2));
        amend(most, many("assign a in wl to b 5 from 0 until 9;", 0, 16));
        due("35 many", most.income(11, 9999999), 16 + 4 + 4 * 3);
    }

    // Promises 37 to 39, and 50
    private static void statements() {
        RoyaltyOffice x = office(TEXT);
        refused("37 none", IOOBE, () -> x.statement(0, 0, 5));
        refused("38 none", IOOBE, () -> x.statementDay(0));
        x.setLeast(0, 87);
        x.income(2, 1001);
        due("39 current", x.current(0, 0) + " " + x.current(0, 1) + " " + x.current(2, 2), "216 130 130");
        x.pass(1);
        due("50 paid", x.close(), 605 + 310);
        due("38 the first", x.statementDay(0), 1);
        due("37 latest", x.statement(0, 0, 0) + " " + x.statement(0, 0, 1) + " " + x.statement(0, 0, 2) + " "
                + x.statement(0, 0, 3) + " " + x.statement(0, 0, 4), "216 130 0 0 86");
        due("37 latest", x.statement(0, 2, 0) + " " + x.statement(0, 2, 1) + " " + x.statement(0, 2, 2) + " "
                + x.statement(0, 2, 3) + " " + x.statement(0, 2, 4), "180 0 130 310 0");
        due("39 a new period", x.current(0, 0) + " " + x.current(0, 1) + " " + x.current(2, 2), "0 0 0");
        due("28 stays", x.total(0, 0), 216);
        amend(x, "payee dora;");
        due("37 defined later", x.statement(0, 3, 0) + " " + x.statement(0, 3, 4), "0 0");
        x.income(0, 2);
        x.pass(1);
        due("50 carried", x.close(), 88);
        due("37 before", x.statement(1, 0, 0) + " " + x.statement(0, 0, 0) + " " + x.statement(0, 0, 3), "216 2 88");
        for (int k = 3; k < 9; k++) {
            x.pass(1);
            due("50 nothing", x.close(), 0);
        }
        due("38 days", x.statementDay(0) + " " + x.statementDay(1) + " " + x.statementDay(4), "8 7 4");
        refused("38 five", IOOBE, () -> x.statementDay(5));
        refused("38 below", IOOBE, () -> x.statementDay(-1));
        refused("37 five", IOOBE, () -> x.statement(5, 0, 0));
        refused("37 payee", IOOBE, () -> x.statement(0, 4, 5));
        refused("37 what", IAE, () -> x.statement(0, 0, 5));
        refused("37 what", IAE, () -> x.statement(0, 0, -1));
        refused("39 payee", IOOBE, () -> x.current(4, 3));
        refused("39 what", IAE, () -> x.current(0, 3));
        refused("39 what", IAE, () -> x.current(0, -1));
    }

    // Promises 40 to 42
    private static void wouldBe() {
        RoyaltyOffice x = office(TEXT);
        String before = state(x);
        due("40 come", x.wouldCome(2, 1001, 2) + " " + x.wouldCome(2, 1001, 1) + " " + x.wouldCome(2, 1001, 0) + " "
                + x.wouldCome(0, 1001, 2), "1001 500 100 0");
        due("41 earn", x.wouldEarn(2, 1001, 0) + " " + x.wouldEarn(2, 1001, 1) + " " + x.wouldEarn(2, 1001, 2),
                "216 605 180");
        due("42 grow", x.wouldGrow(2, 1001, 0) + " " + x.wouldGrow(2, 1001, 1) + " " + x.wouldGrow(2, 1001, 2),
                "86 605 310");
        due("40 nothing changes", state(x), before);
        due("40 no undo", x.undo(), NONE);
        due("41 greatest", x.wouldEarn(1, 9999999, 1), 8000000 + 799999);
        refused("40 work", IOOBE, () -> x.wouldCome(3, 0, 0));
        refused("40 to", IOOBE, () -> x.wouldCome(0, 0, 3));
        refused("40 amount", IAE, () -> x.wouldCome(0, 0, 0));
        refused("40 amount", IAE, () -> x.wouldCome(0, 10000000, 0));
        refused("41 work", IOOBE, () -> x.wouldEarn(-1, 0, 0));
        refused("41 payee", IOOBE, () -> x.wouldEarn(0, 0, 3));
        refused("41 amount", IAE, () -> x.wouldEarn(0, 0, 0));
        refused("41 amount", IAE, () -> x.wouldEarn(0, 10000000, 0));
        refused("42 work", IOOBE, () -> x.wouldGrow(3, 0, 0));
        refused("42 payee", IOOBE, () -> x.wouldGrow(0, 0, 3));
        refused("42 amount", IAE, () -> x.wouldGrow(0, -1, 0));
        refused("42 amount", IAE, () -> x.wouldGrow(0, 10000000, 0));
    }

    // Promise 43
    private static void amountToRecoup() {
        RoyaltyOffice x = office(TEXT);
        due("43 least", x.amountToRecoup(1, 0, 9999) + " " + x.amountToRecoup(1, 0, 129) + " "
                + x.amountToRecoup(1, 0, 128) + " " + x.amountToRecoup(1, 1, 9999), "129 129 -1 645");
        RoyaltyOffice y = office("payee a;payee b;payee c;work w by a 50 c 50;work v by c 100;"
                + "advance b 9 to a rate 50;advance b 9999 to a rate 100 on w;");
        // a's part of 35 is 18 by the cent that is left, and 50 percent of 18 are 9.
        due("43 a cent", y.amountToRecoup(0, 0, 9999), 35);
        due("43 not on that work", y.amountToRecoup(0, 1, 9999), NONE);
        due("43 too much", y.amountToRecoup(1, 0, 9999), NONE);
        y.income(0, 35);
        due("43 recouped", y.amountToRecoup(0, 1, 1), 0);
        RoyaltyOffice z = office("payee a;payee b;work w by a 100;advance b 5 to a rate 50;advance b 2 to a rate 100;"
                + "advance b 999999 to a rate 1;");
        due("43 all of it", z.amountToRecoup(0, 0, 9999) + " " + z.amountToRecoup(0, 0, 9) + " "
                + z.amountToRecoup(1, 0, 9999) + " " + z.amountToRecoup(2, 0, 9999), "10 -1 3 -1");
        refused("43 advance", IOOBE, () -> y.amountToRecoup(2, 0, 0));
        refused("43 work", IOOBE, () -> y.amountToRecoup(0, 2, 0));
        refused("43 most", IAE, () -> y.amountToRecoup(0, 0, 0));
        refused("43 most", IAE, () -> y.amountToRecoup(0, 0, 10000));
    }

    // Promises 44 and 45
    private static void wouldEarnOnDays() {
        RoyaltyOffice x = office(TEXT);
        x.pass(2);
        due("44 days", x.wouldEarnOn(0, 100, 0, 2) + " " + x.wouldEarnOn(0, 100, 0, 9) + " "
                + x.wouldEarnOn(0, 100, 0, 10) + " " + x.wouldEarnOn(0, 100, 2, 9999), "45 45 0 100");
        due("45 best", x.bestDay(0, 100, 0) + " " + x.bestDay(0, 100, 1) + " " + x.bestDay(0, 100, 2), "2 2 10");
        due("45 all alike", x.bestDay(1, 1, 2), 2);
        RoyaltyOffice y = office(PEOPLE + "work w by anna 60 bob 40;assign anna in w to cy 10 from 5 until 9999;"
                + "split w from 4000 by cy 100;");
        due("45 a first day", y.bestDay(0, 100, 2) + " " + y.bestDay(0, 100, 0), "4000 0");
        amend(y, "split w from 9000 by anna 50 bob 50;");
        y.pass(5000);
        due("45 a split's day", y.bestDay(0, 100, 0) + " " + y.bestDay(0, 100, 1), "9999 9000");
        due("44 on that day", y.wouldEarnOn(0, 100, 0, 9998) + " " + y.wouldEarnOn(0, 100, 0, 9999), "45 50");
        refused("44 work", IOOBE, () -> y.wouldEarnOn(1, 0, 0, 0));
        refused("44 payee", IOOBE, () -> y.wouldEarnOn(0, 0, 3, 0));
        refused("44 amount", IAE, () -> y.wouldEarnOn(0, 0, 0, 6000));
        refused("44 amount", IAE, () -> y.wouldEarnOn(0, 10000000, 0, 6000));
        refused("44 a past day", IAE, () -> y.wouldEarnOn(0, 1, 0, 4999));
        refused("44 day", IAE, () -> y.wouldEarnOn(0, 1, 0, 10000));
        refused("45 work", IOOBE, () -> y.bestDay(1, 0, 0));
        refused("45 payee", IOOBE, () -> y.bestDay(0, 0, 3));
        refused("45 amount", IAE, () -> y.bestDay(0, 0, 0));
        refused("45 amount", IAE, () -> y.bestDay(0, 10000000, 0));
    }

    // Promises 47 to 50
    private static void changes() {
        RoyaltyOffice x = office(TEXT);
        due("47 pass", x.pass(0) + " " + x.pass(3), "0 3");
        refused("47 days", IAE, () -> x.pass(-1));
        refused("47 days", IAE, () -> x.pass(10000));
        refused("47 beyond", IAE, () -> x.pass(9997));
        due("47 to the last day", x.pass(9996), 9999);
        x.undo();
        due("48 previous", x.revert(0, 9), 10);
        due("48 set", x.assignment(0, 5) + " " + x.nextReversion(), "9 9");
        refused("48 not less", IAE, () -> x.revert(0, 9));
        refused("48 a past day", IAE, () -> x.revert(0, 2));
        due("48 today", x.revert(0, 3) + " " + x.assignment(0, 6) + " " + x.nextReversion(), "9 0 -1");
        refused("48 reverted", IAE, () -> x.revert(0, 3));
        refused("48 reverted", IAE, () -> x.revert(0, 2));
        refused("48 assignment", IOOBE, () -> x.revert(1, -5));
        refused("48 assignment", IOOBE, () -> x.revert(-1, 5));
        RoyaltyOffice later = office(PEOPLE + "work w by anna 100;assign anna in w to cy 10 from 5 until 8;");
        refused("48 not after the first day", IAE, () -> later.revert(0, 5));
        due("48 ahead of the first day", later.revert(0, 6), 8);
        due("5 after a reversion", amend(later, "assign anna in w to bob 100 from 6 until 8;"), 1);
        due("49 previous", x.setLeast(1, 0) + " " + x.setLeast(1, 99999) + " " + x.least(1), "500 0 99999");
        refused("49 payee", IOOBE, () -> x.setLeast(3, -1));
        refused("49 amount", IAE, () -> x.setLeast(0, -1));
        refused("49 amount", IAE, () -> x.setLeast(0, 100000));
        due("50 nothing", x.close(), 0);
    }

    // Promises 51 to 53
    private static void reports() {
        RoyaltyOffice x = office(TEXT);
        due("51 report", report(x, false), "anna:0 130\nbob:0 0\ncy:0 0\n");
        due("52 no lines", x.reportLines(), 0);
        refused("53 no lines", IOOBE, () -> x.reportByte(0));
        x.income(2, 1001);
        due("51 report", report(x, false), "anna:86 0\nbob:605 0\ncy:310 0\n");
        due("52 lines", report(x, true), "mix anna 171-85\nmix bob 165\nmix cy 165\nrock bob 400\nsong cy 15\n"
                + "song anna 45-45\nsong bob 40\n");
        int length = x.report();
        x.undo();
        x.readText();
        due("53 stays", (char) x.reportByte(0) + "" + (char) x.reportByte(5), "a8");
        due("53 the last byte", x.reportByte(length - 1), 10);
        refused("53 beyond", IOOBE, () -> x.reportByte(length));
        refused("53 below", IOOBE, () -> x.reportByte(-1));
        due("51 no payees", x.report(), 0);
        RoyaltyOffice y = office("payee abcdefgh;work zzzzzzzz by abcdefgh 100;");
        y.income(0, 9999999);
        for (int k = 0; k < 20; k++) {
            script(y, "repeat 20(repeat 2(income zzzzzzzz 999999;););");
        }
        due("51 a great balance", report(y, false), "abcdefgh:809999199 0\n");
        due("52 a long line", report(y, true), "zzzzzzzz abcdefgh 999999\n");
    }

    // Promise 54
    private static void undo() {
        RoyaltyOffice x = office(TEXT);
        String[] states = new String[8];
        for (int k = 0; k < 8; k++) {
            states[k] = state(x);
            switch (k) {
                case 0: x.income(2, 999); break;
                case 1: x.pass(3); break;
                case 2: x.close(); break;
                case 3: x.revert(0, 7); break;
                case 4: x.setLeast(0, 5); break;
                case 5: script(x, "income rock 77;pass 1;close;"); break;
                case 6: amend(x, "payee dora;sample song in mix 3;"); break;
                default: x.income(0, 5000); break;
            }
        }
        x.save();
        String last = state(x);
        x.report();
        feed(x, "foo");
        refused("54 an error", IAE, x::amend);
        x.feed(0, 0, 0, 0, 0);
        for (int k = 7; k >= 3; k--) {
            due("54 left", x.undo(), k - 3);
            due("54 undone " + k, state(x), states[k]);
        }
        due("54 five only", x.undo(), NONE);
        due("54 nothing changes", state(x), states[3]);
        due("54 error stays", x.errorCode() + " " + x.errorPosition(), "1 0");
        due("54 buffer stays", x.truncate(20), 20);
        due("54 report stays", (char) x.reportByte(0), 'a');
        x.restore();
        due("54 what is saved stays", state(x), last);
        x.pass(1);
        refused("54 a refusal", IAE, () -> x.pass(-1));
        refused("54 a refusal", IOOBE, () -> x.income(9, 1));
        due("54 refusals are no calls", x.undo() + " " + x.undo(), "0 -1");
        RoyaltyOffice y = new RoyaltyOffice();
        y.amend();
        y.runScript();
        y.close();
        due("54 empty calls", y.undo() + " " + y.undo() + " " + y.undo() + " " + y.undo(), "2 1 0 -1");
    }

    // Promises 55 and 56
    private static void saving() {
        RoyaltyOffice x = office(TEXT);
        refused("56 nothing", ISE, x::restore);
        x.pass(4);
        refused("56 nothing changes", ISE, x::restore);
        due("54 kept", x.undo(), 0);
        x.pass(4);
        x.income(2, 1001);
        x.close();
        due("55 day", x.save(), 4);
        String saved = state(x);
        feed(x, "payee");
        refused("7 error", IAE, x::readText);
        x.report();
        x.pass(6);
        x.income(0, 70);
        amend(x, "payee dora;");
        feed(x, "close;");
        due("56 day", x.restore(), 4);
        due("56 all", state(x), saved);
        due("56 undo", x.undo(), NONE);
        due("56 buffer stays", x.runScript() + " " + x.count(6), "1 2");
        due("56 report stays", (char) x.reportByte(0), 'a');
        due("56 again", x.restore() + " " + state(x).equals(saved), "4 true");
        x.pass(2);
        due("55 in place", x.save() + " " + x.restore(), "6 6");
        due("55 undo stays", office(TEXT).save(), 0);
        x.pass(1);
        x.save();
        due("55 undo stays", x.undo() + " " + x.count(4), "0 6");
    }

    private static void constants() {
        due("NONE", RoyaltyOffice.NONE, -1);
    }
}
