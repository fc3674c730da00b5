import java.util.ArrayList;
import java.util.Arrays;
import java.util.List;

/**
 * The boundary cases of texts and of scripts (sections 1 and 7 of the document, on which promises 2 to 9 rest):
 * each is read by readText() (P4), by amend() (P5) or by runScript() (P6), and its error is asked (P7 to P9).
 */
public final class TextBoundaryTests extends Checks {
    private static final String[] QUOTED = {"payee", "least", "work", "cover", "of", "sample", "in", "split", "from",
        "assign", "to", "until", "advance", "rate", "on", "by", "income", "pass", "revert", "close", "repeat"};
    private static final String HEAD = "payee p;payee q;payee r;payee s;payee t;"
            + "work v by p 100;work w by p 50 q 50;work x by p 100;";
    /** Each form of a statement, behind HEAD; its tokens stand apart. */
    private static final String[] STATEMENTS = {"payee z ;", "payee z least 5 ;", "work z by p 100 ;",
        "work z by p 40 q 30 r 20 s 10 ;", "cover z of v 10 by p 100 ;", "cover z of v 10 by p 1 q 99 ;",
        "sample v in w 10 ;", "split v from 5 by p 100 ;", "split v from 5 by p 30 q 70 ;",
        "assign p in v to q 10 from 0 until 5 ;", "advance p 5 to q rate 5 ;", "advance p 5 to q rate 5 on v ;"};
    private static final String[] COMMANDS = {"income v 5 ;", "pass 5 ;", "revert 0 5 ;", "least p 5 ;", "close ;",
        "repeat 2 ( ) ;", "repeat 2 ( close ; ) ;", "repeat 2 ( repeat 3 ( pass 1 ; ) ; close ; ) ;"};

    public static void main(String[] args) {
        everyByte();
        lengthsOfWordsAndNumbers();
        names();
        endsAndWrongTokens();
        ranges();
        unknownNames();
        takenNames();
        fits();
        sumsOfAssignments();
        limits();
        firstAndLowest();
        wholeBuffer();
        scriptTokens();
        scriptLimits();
        scriptRuns();
        errorsChangeNothing();
        errorOfTheLatest();
        end("all boundary cases of texts stand");
    }

    // ---- how an error is weighed

    /** An error at the sign ^ of a text, which is read as it is, and as an addition. */
    private static void error(String what, int code, int why, String marked) {
        String text = marked.replace("^", "");
        String due = code + " " + marked.indexOf('^') + " " + why;
        RoyaltyOffice x = new RoyaltyOffice();
        feed(x, text);
        refused("P4 " + what + ": " + marked, IAE, x::readText);
        due("P7 P8 P9 " + what + ": " + marked, error(x), due);
        feed(x, text);
        refused("P5 " + what + ": " + marked, IAE, x::amend);
        due("P7 P8 P9 " + what + ", amended: " + marked, error(x), due);
    }

    private static void fine(String what, String text) {
        RoyaltyOffice x = new RoyaltyOffice();
        feed(x, text);
        try {
            x.readText();
        } catch (IllegalArgumentException e) {
            due("P4 " + what + ": " + text, "error " + error(x), "no error");
        }
        due("P7 P8 P9 " + what + ": " + text, error(x), "0 -1 0");
    }

    private static RoyaltyOffice scriptOffice() {
        return office(HEAD + "assign p in v to q 10 from 0 until 9000;");
    }

    private static void scriptError(String what, int code, String marked) {
        RoyaltyOffice x = scriptOffice();
        feed(x, marked.replace("^", ""));
        refused("P6 " + what + ": " + marked, IAE, x::runScript);
        due("P7 P8 P9 " + what + ": " + marked, error(x), code + " " + marked.indexOf('^') + " 0");
    }

    private static void fineScript(String what, String text, int commands) {
        RoyaltyOffice x = scriptOffice();
        feed(x, text);
        try {
            due("P6 " + what + ": " + text, x.runScript(), commands);
        } catch (IllegalArgumentException e) {
            due("P6 " + what + ": " + text, "error " + error(x), "no error");
        }
        due("P7 P8 P9 " + what + ": " + text, error(x), "0 -1 0");
    }

    // ---- tokens

    // Every byte within a word, and within a number: it goes on, is a space, is a sign of its own, or is invalid.
    private static void everyByte() {
        for (int b = 0; b < 256; b++) {
            boolean space = b == 32 || b == 10;
            boolean letter = b >= 'a' && b <= 'z';
            boolean digit = b >= '0' && b <= '9';
            String sign = String.valueOf((char) b);
            RoyaltyOffice x = new RoyaltyOffice();
            feed(x, "payee a" + sign + "b;");
            byteDue("in a word, byte " + b, x, letter, space || b == ';' ? "1 8 0" : "1 7 0");
            feed(x, "payee a least 1" + sign + "2;");
            byteDue("in a number, byte " + b, x, digit, space || b == ';' ? "1 16 0" : "1 15 0");
            feed(x, sign + "payee a;");
            byteDue("ahead of the first word, byte " + b, x, space, "1 0 0");
            feed(x, "payee a;" + sign);
            byteDue("behind the last semicolon, byte " + b, x, space, "1 8 0");
        }
    }

    private static void byteDue(String what, RoyaltyOffice x, boolean fits, String error) {
        try {
            x.readText();
        } catch (IllegalArgumentException e) {
            due("P7 P8 P9 " + what, error(x), fits ? "no error" : error);
            return;
        }
        due("P4 " + what, fits, true);
    }

    private static void lengthsOfWordsAndNumbers() {
        fine("a word of 1 letter", "payee a;payee z;");
        fine("a word of 8 letters", "payee abcdefgh;");
        due("P51 a name of 8 letters", report(office("payee zyxwvuts;"), false), "zyxwvuts:0 0\n");
        error("a word of 9 letters", 1, 0, "payee ^abcdefghi;");
        error("a quoted word that goes on to 9 letters", 1, 0, "^payeepayee a;");
        error("a word of 30 letters", 1, 0, "payee ^" + many("#", 0, 26) + "abcd;");
        fine("words that differ in the last of 8 letters", "payee abcdefgh;payee abcdefgi;");
        error("the same 8 letters", 4, 0, "payee abcdefgh;payee ^abcdefgh;");
        fine("a number of 1 digit", "payee a least 0;");
        fine("a number of 6 digits", "payee a least 099999;");
        due("P11 a number of 6 digits", office("payee a least 000012;").least(0), 12);
        error("a number of 6 digits", 2, 0, "payee a least ^999999;");
        error("a number of 7 digits", 1, 0, "payee a least ^0000012;");
        error("a number of 40 digits", 1, 0, "payee a least ^1000000000000000000000000000000000000012;");
        error("a number that an int would wrap around", 1, 0, "payee a least ^4294967297;");
        fine("no spaces but between words", "payee p;work w by p100;split w from1by p100;");
        fine("spaces and line feeds at each place", " \n payee \n a\nleast 5 \n\n; \n ");
        error("an uppercase letter", 1, 0, "^Payee a;");
        error("a longer run at the end of the text", 1, 0, "payee ^abcdefghi");
    }

    private static void names() {
        for (String word : QUOTED) {
            error("a quoted word is no NAME", 1, 0, "payee ^" + word + ";");
            error("a quoted word is no NAME", 1, 0, "payee p;work ^" + word + " by p 100;");
            error("a quoted word is no NAME", 1, 0, "payee p;work w by ^" + word + " 100;");
            scriptError("a quoted word is no NAME", 1, "income ^" + word + " 1;");
            scriptError("a quoted word is no NAME", 1, "least ^" + word + " 1;");
            fine("nearly a quoted word", "payee " + word.substring(0, word.length() - 1) + "z;");
            fine("longer than a quoted word", "payee " + word + "s;");
            fine("a letter ahead of a quoted word", "payee z" + word + ";");
        }
        for (String word : new String[] {"by", "of", "in", "to", "on"}) {
            fine("the first letter of a quoted word", "payee " + word.charAt(0) + ";");
        }
        fine("words of the document that are in no quotes", "payee name;payee shares;payee office;payee setleast;");
    }

    // The text ends after each token, and each token is replaced by one that is not allowed there.
    private static void endsAndWrongTokens() {
        fine("an empty text", "");
        fine("a text of spaces alone", "  \n ");
        error("a semicolon without a statement", 1, 0, "^;");
        error("two semicolons", 1, 0, "payee a;^;");
        for (String statement : STATEMENTS) {
            fine("a whole statement", HEAD + statement);
            String[] tokens = statement.split(" ");
            for (int k = 0; k < tokens.length; k++) {
                String before = HEAD + String.join(" ", Arrays.copyOf(tokens, k));
                String behind = String.join(" ", Arrays.copyOfRange(tokens, k + 1, tokens.length));
                if (k > 0) {
                    error("a text that ends too early", 1, 0, before + "^");
                    error("a text that ends too early, with spaces", 1, 0, before + " \n ^");
                }
                for (String not : notAllowed(tokens[k])) {
                    error("a token that is not allowed", 1, 0, before + " ^" + not + " " + behind);
                }
                if (needed(tokens, k)) {
                    error("a semicolon too early", 1, 0, before + " ^; " + behind);
                }
            }
        }
        error("a command in a text", 1, 0, HEAD + "^close;");
        error("a fifth share's percentage alone", 1, 0, HEAD + "work z by p 100 ^1;");
    }

    private static List<String> notAllowed(String token) {
        List<String> list = new ArrayList<>(Arrays.asList("#", "A", "abcdefghi", "1234567", "(", ")"));
        boolean number = Character.isDigit(token.charAt(0));
        boolean quoted = Arrays.asList(QUOTED).contains(token);
        list.add(number ? "p" : "7");
        if (quoted) {
            list.add("repeat");
        } else {
            list.add("by");
        }
        // Behind "payee z" and behind a rate a word could go on with the statement: "least", "on".
        if (quoted && !token.equals("least") && !token.equals("on")) {
            list.add("least");
            list.add("zz");
        }
        return list;
    }

    // A statement can end ahead of "least", of "on", and of each share but the first.
    private static boolean needed(String[] tokens, int k) {
        int by = Arrays.asList(tokens).indexOf("by");
        boolean share = by >= 0 && k > by + 1 && (k - by) % 2 == 1;
        return !share && !Arrays.asList("least", "on", ";").contains(tokens[k]);
    }

    // ---- numbers

    // Code 2: the first number that is not allowed, on both sides; the last that is.
    private static void ranges() {
        range("the least of a payee", "payee z least #;", 0, 99999, 0, 99999);
        range("a share", "work z by p #;", 1, 100, 100, 100);
        range("a share", "work z by p # q 99;", 1, 100, 1, 1);
        range("a second share", "work z by p 1 q #;", 1, 100, 99, 99);
        range("a part of a cover", "cover z of v # by p 100;", 1, 90, 1, 90);
        range("a share of a cover", "cover z of v 1 by p #;", 1, 100, 100, 100);
        range("a part of a sample", "sample v in w #;", 1, 90, 1, 90);
        range("the day of a split", "split v from # by p 100;", 1, 9999, 1, 9999);
        range("a share of a split", "split v from 1 by p #;", 1, 100, 100, 100);
        range("an assigned percentage", "assign p in v to q # from 0 until 1;", 1, 100, 1, 100);
        range("a first day", "assign p in v to q 1 from # until 9999;", 0, 9999, 0, 9998);
        range("a second day", "assign p in v to q 1 from 0 until #;", 1, 9999, 1, 9999);
        range("an advanced amount", "advance p # to q rate 1;", 1, 999999, 1, 999999);
        range("a rate", "advance p 1 to q rate #;", 1, 100, 1, 100);
        range("a rate on a work", "advance p 1 to q rate # on v;", 1, 100, 1, 100);
        error("a first day of 9999 is in its range", 5, 5, HEAD + "assign p in v to q 1 from 9999 until 9999^;");
        due("P11 without a least balance", office("payee a;").least(0), 0);
    }

    /** A number from low to high is no error 2; one from lowFits to highFits is no error at all. */
    private static void range(String what, String statement, int low, int high, int lowFits, int highFits) {
        String all = HEAD + statement;
        fine(what + ", lowest", all.replace("#", String.valueOf(lowFits)));
        fine(what + ", greatest", all.replace("#", String.valueOf(highFits)));
        if (low > 0) {
            error(what + ", too small", 2, 0, all.replace("#", "^" + (low - 1)));
            error(what + ", 0", 2, 0, all.replace("#", "^0"));
        }
        if (high < 999999) {
            error(what + ", too great", 2, 0, all.replace("#", "^" + (high + 1)));
            error(what + ", much too great", 2, 0, all.replace("#", "^999999"));
        }
        error(what + ", too long", 1, 0, all.replace("#", "^0000001"));
        for (int n : new int[] {low, high}) {
            RoyaltyOffice x = new RoyaltyOffice();
            feed(x, all.replace("#", String.valueOf(n)));
            try {
                x.readText();
            } catch (IllegalArgumentException e) {
                due("P7 " + what + ", in its range: " + n, x.errorCode(), 5);
            }
        }
    }

    // ---- names

    // Code 3: at each place of a payee's name an unknown one, and a work's; and the other way round.
    private static void unknownNames() {
        String[] ofPayees = {"work z by #100;", "work z by p 50 #50;", "cover z of v 1 by #100;", "split v from 1 by #100;",
            "assign #in v to q 1 from 0 until 1;", "assign p in v to #1 from 0 until 1;", "advance #1 to q rate 1;",
            "advance p 1 to #rate 1;"};
        String[] ofWorks = {"cover z of #1 by p 100;", "sample #in w 1;", "sample v in #1;", "split #from 1 by p 100;",
            "assign p in #to q 1 from 0 until 1;", "advance p 1 to q rate 1 on #;"};
        for (String statement : ofPayees) {
            error("no such payee", 3, 0, HEAD + statement.replace("#", "^unknown "));
            error("a work is no payee", 3, 0, HEAD + statement.replace("#", "^v "));
            error("a payee defined behind", 3, 0, HEAD + statement.replace("#", "^u ") + "payee u;");
            fine("a payee defined ahead", HEAD + "payee u;" + statement.replace("#", "u "));
        }
        for (String statement : ofWorks) {
            error("no such work", 3, 0, HEAD + statement.replace("#", "^unknown "));
            error("a payee is no work", 3, 0, HEAD + statement.replace("#", "^p "));
            error("a work defined behind", 3, 0, HEAD + statement.replace("#", "^u ") + "work u by p 100;");
        }
        error("a cover of itself", 3, 0, HEAD + "cover z of ^z 1 by p 100;");
        error("the first payee of an empty office", 3, 0, "work z by ^p 100;");
        error("the first work of an empty office", 3, 0, "payee p;split ^v from 1 by p 100;");
    }

    // Code 4
    private static void takenNames() {
        error("a payee's name, the first", 4, 0, HEAD + "payee ^p;");
        error("a payee's name, the last", 4, 0, HEAD + "payee ^t;");
        error("a work's name for a payee, the first", 4, 0, HEAD + "payee ^v;");
        error("a work's name for a payee, the last", 4, 0, HEAD + "payee ^x;");
        error("a payee's name for a work", 4, 0, HEAD + "work ^p by p 100;");
        error("a work's name for a work", 4, 0, HEAD + "work ^x by p 100;");
        error("a payee's name for a cover", 4, 0, HEAD + "cover ^t of v 1 by p 100;");
        error("a work's name for a cover", 4, 0, HEAD + "cover ^v of v 1 by p 100;");
        error("twice in the shares of a work", 4, 0, HEAD + "work z by p 50 ^p 50;");
        error("twice in the shares of a work, the first and the last", 4, 0, HEAD + "work z by p 1 q 1 r 1 ^p 97;");
        error("twice in the shares of a cover", 4, 0, HEAD + "cover z of v 1 by p 50 q 1 ^q 49;");
        error("twice in the shares of a split", 4, 0, HEAD + "split v from 1 by p 50 ^p 50;");
        fine("in the shares of two works", HEAD + "work y by p 100;work z by p 100;");
        RoyaltyOffice x = office(HEAD);
        feed(x, "payee z;payee v;");
        refused("P5 a name that the office has", IAE, x::amend);
        due("P7 P8 a name that the office has", error(x), "4 14 0");
        due("P5 the name of a refused text is free", amend(x, "payee z;"), 1);
    }

    // ---- code 5

    private static void fits() {
        error("shares of 99", 5, 1, HEAD + "work z by p 99^;");
        error("shares of 101", 5, 1, HEAD + "work z by p 100 q 1^;");
        error("shares of 99, four of them", 5, 1, HEAD + "work z by p 25 q 25 r 25 s 24^;");
        error("shares of 400", 5, 1, HEAD + "work z by p 100 q 100 r 100 s 100^;");
        fine("shares of 100, four of them", HEAD + "work z by p 25 q 25 r 25 s 25;");
        error("shares of a cover", 5, 1, HEAD + "cover z of v 1 by p 99^;");
        error("shares of a split", 5, 1, HEAD + "split v from 1 by p 99^;");
        String split = HEAD + "split v from 5 by p 100;";
        error("a split on the day of the latest", 5, 2, split + "split v from 5 by q 100^;");
        error("a split ahead of the latest", 5, 2, split + "split v from 4 by q 100^;");
        fine("a split a day later", split + "split v from 6 by q 100;");
        fine("a split of another work", split + "split w from 5 by q 100;");
        error("a split's shares come first", 5, 1, split + "split v from 5 by q 99^;");
        error("a split after three", 5, 2, split + "split v from 7 by p 100;split v from 6 by p 100^;");
        error("a sample of the work itself", 5, 3, HEAD + "sample w in w 1^;");
        error("a sample of the work behind it", 5, 3, HEAD + "sample w in v 1^;");
        fine("a sample of the work ahead of it", HEAD + "sample v in w 1;");
        error("a source already", 5, 3, HEAD + "sample v in x 1;sample v in x 1^;");
        error("a source already, the covered work", 5, 3, HEAD + "cover z of v 1 by p 100;sample v in z 1^;");
        error("a source already, and too much", 5, 3, HEAD + "sample v in x 50;sample v in x 50^;");
        error("not ahead, and too much", 5, 3, HEAD + "sample v in x 50;sample x in x 50^;");
        fine("a source of a source", HEAD + "sample v in w 1;sample w in x 1;sample v in x 1;");
        error("sources of 91", 5, 4, HEAD + "sample v in x 1;sample w in x 90^;");
        fine("sources of 90", HEAD + "sample v in x 1;sample w in x 89;");
        error("sources of 91, with a cover", 5, 4, HEAD + "cover z of v 90 by p 100;sample w in z 1^;");
        String three = HEAD + "cover z of v 30 by p 100;sample w in z 30;";
        fine("three sources of 90", three + "sample x in z 30;");
        error("three sources of 91", 5, 4, three + "sample x in z 31^;");
        error("to the payee itself", 5, 5, HEAD + "assign p in v to p 1 from 0 until 1^;");
        error("a second day as the first", 5, 5, HEAD + "assign p in v to q 1 from 1 until 1^;");
        error("a second day ahead of the first", 5, 5, HEAD + "assign p in v to q 1 from 2 until 1^;");
        fine("a second day behind the first", HEAD + "assign p in v to q 1 from 1 until 2;");
        fine("of a payee without a share", HEAD + "assign t in v to q 100 from 0 until 9999;");
        error("an advance to itself", 5, 7, HEAD + "advance p 1 to p rate 1^;");
        error("an advance to itself on a work", 5, 7, HEAD + "advance q 1 to q rate 1 on v^;");
        fine("advances both ways", HEAD + "advance p 1 to q rate 1;advance q 1 to p rate 1;");
    }

    // Code 5 with reason 6: the sum on each day, at the edges of the days
    private static void sumsOfAssignments() {
        String one = HEAD + "assign p in v to q 60 from 5 until 10;";
        fine("100 on the same days", one + "assign p in v to r 40 from 5 until 10;");
        error("101 on the same days", 5, 6, one + "assign p in v to r 41 from 5 until 10^;");
        error("101 on the first day alone", 5, 6, one + "assign p in v to r 41 from 0 until 6^;");
        fine("until the first day", one + "assign p in v to r 100 from 0 until 5;");
        error("101 on the last day alone", 5, 6, one + "assign p in v to r 41 from 9 until 20^;");
        fine("from the second day on", one + "assign p in v to r 100 from 10 until 20;");
        error("101 on days within", 5, 6, one + "assign p in v to r 41 from 7 until 8^;");
        error("101 on days around", 5, 6, one + "assign p in v to r 41 from 0 until 9999^;");
        error("to the payee itself, and 101", 5, 5, one + "assign p in v to p 41 from 5 until 10^;");
        error("no days, and 101", 5, 5, one + "assign p in v to r 41 from 7 until 7^;");
        fine("in another work", one + "assign p in w to r 100 from 5 until 10;");
        fine("of another payee", one + "assign q in v to r 100 from 5 until 10;");
        String two = one + "assign p in v to r 40 from 10 until 15;assign p in v to s 20 from 12 until 14;";
        fine("100 on two days", two + "assign p in v to t 40 from 0 until 14;");
        error("101 on days of two", 5, 6, two + "assign p in v to t 41 from 10 until 13^;");
        fine("60 ahead of the third", two + "assign p in v to t 60 from 10 until 12;");
        error("60 on the third's first day", 5, 6, two + "assign p in v to t 60 from 10 until 13^;");
        RoyaltyOffice x = office(one);
        x.revert(0, 7);
        feed(x, "assign p in v to r 41 from 6 until 10;");
        refused("P5 101 on the last day after a reversion", IAE, x::amend);
        due("P7 P8 P9 101 on the last day after a reversion", error(x), "5 37 6");
        due("P5 from the new second day on", amend(x, "assign p in v to r 41 from 7 until 10;"), 1);
        x.pass(9999);
        feed(x, "assign p in v to s 60 from 7 until 8;");
        refused("P5 101 on a past day", IAE, x::amend);
        due("P9 101 on a past day", x.why(), 6);
    }

    // ---- code 6

    private static void limits() {
        String ten = many("payee p#;", 0, 10);
        fine("10 payees", ten);
        error("an 11th payee", 6, 0, ten + "^payee z;");
        error("an 11th payee, of a name that is taken", 6, 0, ten + "^payee pa;");
        String twelve = "payee p;" + many("work w# by p100;", 0, 12);
        fine("12 works", twelve);
        error("a 13th work", 6, 0, twelve + "^work z by p 100;");
        error("a 13th work, a cover", 6, 0, twelve + "^cover z of wa 1 by p 100;");
        fine("12 works, covers too", "payee p;work w by p 100;" + many("cover w# of w 1 by p 100;", 0, 11));
        String three = HEAD + "work y by p 100;work z by p 100;sample v in z 1;sample w in z 1;sample x in z 1;";
        fine("3 sources", three);
        error("a fourth source", 6, 0, three + "sample y in ^z 1;");
        error("a fourth source that is one already", 6, 0, three + "sample v in ^z 99;");
        error("a fourth source of a cover", 6, 0, HEAD + "cover z of v 1 by p 100;sample w in z 1;sample x in z 1;"
                + "sample z in ^z 1;");
        String four = HEAD + "split v from 1 by p 100;split v from 2 by p 100;split v from 3 by p 100;";
        fine("4 splits", four);
        error("a fifth split", 6, 0, four + "split ^v from 4 by p 100;");
        fine("4 splits of another work", four + "split w from 4 by p 100;");
        error("a fifth share", 6, 0, HEAD + "work z by p 20 q 20 r 20 s 20 ^t 20;");
        error("a fifth share of a cover", 6, 0, HEAD + "cover z of v 1 by p 20 q 20 r 20 s 20 ^t 20;");
        error("a fifth share of a split", 6, 0, HEAD + "split v from 1 by p 20 q 20 r 20 s 20 ^t 20;");
        RoyaltyOffice x = office("payee p;payee q;work w by p 100;");
        due("P5 16 assignments", amend(x, many("assign p in w to q 1 from 0 until 9;", 0, 16)), 16);
        limit(x, "a 17th assignment", "payee r;", "assign q in w to p 1 from 0 until 9;");
        limit(x, "a 17th assignment that does not fit", "payee r;", "assign p in w to p 1 from 0 until 9;");
        due("P5 12 advances", amend(x, many("advance p 1 to q rate 1;", 0, 12)), 12);
        limit(x, "a 13th advance", "payee r;", "advance p 1 to q rate 1;");
        due("P10 full", x.count(2) + " " + x.count(3), "16 12");
        x.undo();
        due("P5 room again after an undo", amend(x, many("advance q 1 to p rate 1;", 0, 12)), 12);
        RoyaltyOffice y = office(ten);
        limit(y, "an 11th payee", "", "payee z;");
        RoyaltyOffice z = office(twelve);
        limit(z, "a 13th work", "", "work z by p 100;");
    }

    private static void limit(RoyaltyOffice x, String what, String before, String statement) {
        feed(x, before + statement);
        refused("P5 " + what, IAE, x::amend);
        due("P7 P8 P9 " + what, error(x), "6 " + before.length() + " 0");
    }

    // The first token with an error, and the lowest of its codes
    private static void firstAndLowest() {
        error("the first of two errors", 2, 0, HEAD + "work z by p ^0 p 101;payee p;#");
        error("the first of two errors", 3, 0, HEAD + "work z by ^zz 0;");
        error("a semicolon that does not fit, ahead of others", 5, 1, HEAD + "work z by p 1^;payee p;");
        error("4 ahead of 5", 4, 0, HEAD + "work z by p 1 ^p 1;");
        error("3 ahead of 6 at a fifth share", 3, 0, HEAD + "work z by p 20 q 20 r 20 s 20 ^zz 20;");
        error("4 ahead of 6 at a fifth share", 4, 0, HEAD + "work z by p 20 q 20 r 20 s 20 ^q 20;");
        error("1 ahead of 6 at a fifth share", 1, 0, HEAD + "work z by p 20 q 20 r 20 s 20 ^by 20;");
        error("1 ahead of 2", 1, 0, HEAD + "work z by p ^1000000;");
        error("1 ahead of 5", 1, 0, HEAD + "work z by p 1^#");
        scriptError("4 ahead of 6 at a repeat", 4, "repeat 1 (repeat 1 (" + many("close;", 0, 28) + "^repeat 1 ();););");
        scriptError("1 ahead of 6 at a 31st command", 1, many("close;", 0, 30) + "^v;");
        scriptError("1 ahead of 4 in two repeats", 1, "repeat 1 (repeat 1 (^repeats 1 ();););");
    }

    // Texts of 900 bytes
    private static void wholeBuffer() {
        String pad = " ".repeat(892);
        fine("a text of 900 bytes", pad + "payee z;");
        fine("a text of 900 bytes, spaces at its end", "payee z;" + pad);
        error("an error at byte 899", 1, 0, pad + "payee z^#");
        error("an error at the length 900", 1, 0, pad + "payee zz^");
        error("an error at the length 900, behind spaces", 1, 0, "payee zz" + pad + "^");
        fine("a text of 900 line feeds", "\n".repeat(900));
        error("900 semicolons", 1, 0, "^" + ";".repeat(900));
        error("900 letters", 1, 0, "^" + "a".repeat(900));
        error("900 digits", 1, 0, "^" + "1".repeat(900));
        scriptError("900 bytes of openings", 1, "repeat 1 (" + "^" + "(".repeat(880));
    }

    // ---- scripts

    private static void scriptTokens() {
        fineScript("an empty script", "", 0);
        fineScript("a script of spaces", " \n", 0);
        scriptError("a semicolon alone", 1, "^;");
        scriptError("a closing alone", 1, "^)");
        for (String command : COMMANDS) {
            String[] tokens = command.split(" ");
            for (int k = 0; k < tokens.length; k++) {
                String before = "close;" + String.join(" ", Arrays.copyOf(tokens, k));
                String behind = String.join(" ", Arrays.copyOfRange(tokens, k + 1, tokens.length));
                if (k > 0) {
                    scriptError("a script that ends too early", 1, before + "^");
                    scriptError("a script that ends too early, with spaces", 1, before + "\n ^");
                }
                List<String> list = new ArrayList<>(Arrays.asList("#", "abcdefghi", "1234567", "payee", "by"));
                list.add(Character.isDigit(tokens[k].charAt(0)) ? "v" : "7");
                list.add(tokens[k].equals("(") ? ")" : "(");
                for (String not : list) {
                    scriptError("a token that is not allowed", 1, before + " ^" + not + " " + behind);
                }
            }
        }
        scriptError("a statement in a script", 1, "^payee z;");
        scriptError("a name in place of a command", 1, "^v;");
        scriptError("a closing too many", 1, "repeat 1 ( );^);");
        scriptError("no semicolon behind a closing", 1, "repeat 1 ( ) ^close;");
        scriptError("no semicolon ahead of a closing", 1, "repeat 1 ( close ^);");
        scriptError("no such work", 3, "income ^unknown 1;");
        scriptError("a payee is no work", 3, "income ^p 1;");
        scriptError("no such payee", 3, "least ^unknown 1;");
        scriptError("a work is no payee", 3, "least ^v 1;");
        fineScript("the last names", "income x 1;least t 1;", 2);
    }

    // Numbers from 0 to 999999, of "repeat" from 1 to 20; 30 commands; two repeats within each other
    private static void scriptLimits() {
        for (String command : new String[] {"income v #;", "pass #;", "revert # 5;", "revert 0 #;", "least p #;"}) {
            for (String n : new String[] {"0", "000000", "999999"}) {
                RoyaltyOffice x = scriptOffice();
                feed(x, command.replace("#", n));
                due("P6 a number in its range: " + command + n, x.runScript() <= 1, true);
                due("P7 a number in its range: " + command + n, error(x), "0 -1 0");
            }
            scriptError("a number of 7 digits", 1, command.replace("#", "^1000000"));
        }
        fineScript("repeat 1", "repeat 1 (pass 1;);", 1);
        fineScript("repeat 20", "repeat 20 (pass 1;);", 20);
        scriptError("repeat 0", 2, "repeat ^0 (pass 1;);");
        scriptError("repeat 21", 2, "repeat ^21 (pass 1;);");
        scriptError("repeat 999999", 2, "repeat ^999999 (pass 1;);");
        fineScript("two repeats within each other", "repeat 3 (repeat 4 (close;););", 12);
        scriptError("three repeats within each other", 4, "repeat 1 (repeat 1 (^repeat 1 (close;);););");
        scriptError("three, the third with an error behind", 4, "repeat 1 (repeat 1 (^repeat 0 #");
        fineScript("a repeat behind another within one", "repeat 2 (repeat 2 (close;);repeat 2 (close;););", 8);
        fineScript("a repeat behind one", "repeat 2 (close;);repeat 2 (close;);", 4);
        String thirty = many("close;", 0, 26) + "pass 1;pass 1;pass 1;pass 1;";
        fineScript("30 commands", thirty, 30);
        scriptError("a 31st command", 6, thirty + "^close;");
        scriptError("a 31st command, a repeat", 6, thirty + "^repeat 1 ();");
        String within = "repeat 1 (" + many("close;", 0, 26) + "repeat 1 (pass 1;";
        fineScript("30 commands, repeats among them", within + "pass 1;););", 28);
        scriptError("a 31st command within repeats", 6, within + "pass 1;^close;););");
        scriptError("a 31st command behind repeats", 6, within + "pass 1;););^close;");
        fineScript("30 empty repeats", "repeat 20(repeat 20(););".repeat(15), 0);
        scriptError("a 31st repeat", 6, "repeat 20(repeat 20(););".repeat(15) + "^repeat 20();");
        scriptError("an empty repeat within two others", 4, "repeat 20(repeat 20(^repeat 20();););");
    }

    // P6: where a script ends
    private static void scriptRuns() {
        fineScript("40 commands, just all", "repeat 20 (pass 1;pass 1;);", 40);
        RoyaltyOffice x = scriptOffice();
        due("P6 40 commands", script(x, "repeat 20 (pass 1;pass 1;);pass 100;") + " " + x.count(4), "40 40");
        due("P6 39 and one", script(x, "repeat 13 (pass 1;pass 1;pass 1;);pass 100;pass 1000;") + " " + x.count(4),
                "40 179");
        due("P6 40 within a repeat", script(x, "repeat 2 (repeat 20 (pass 1;close;););close;") + " " + x.count(4) + " "
                + x.count(6), "40 199 20");
        due("P6 a repeat is not counted", script(x, "repeat 20 (repeat 1 (pass 0;););repeat 20 (pass 0;);"), 40);
        due("P6 ends at the first command", script(x, "income v 0;pass 1;") + " " + x.count(4), "0 199");
        due("P6 ends within a repeat", script(x, "repeat 3 (pass 1;repeat 2 (pass 2;revert 9 5;pass 4;););pass 8;") + " "
                + x.count(4), "2 202");
        due("P6 an income of 1", script(x, "income v 1;income v 0;close;") + " " + x.came(0), "1 1");
        due("P6 an income of 999999", script(x, "income v 999999;") + " " + x.came(0), "1 1000000");
        due("P6 days to the last one", script(x, "pass 9797;pass 0;pass 1;close;") + " " + x.count(4), "2 9999");
        x.undo();
        due("P6 days beyond", script(x, "pass 9798;close;") + " " + x.count(4), "0 202");
        due("P6 more days than there are", script(x, "pass 10000;close;") + " " + x.count(4), "0 202");
        due("P6 a reversion today", script(x, "revert 0 202;close;") + " " + x.assignment(0, 5), "2 202");
        x.undo();
        due("P6 a reversion a day ago", script(x, "revert 0 201;close;"), 0);
        due("P6 a reversion a day ahead", script(x, "revert 0 8999;close;") + " " + x.assignment(0, 5), "2 8999");
        due("P6 no reversion", script(x, "revert 0 8999;close;"), 0);
        due("P6 no such assignment", script(x, "close;revert 1 300;close;"), 1);
        due("P6 an assignment far off", script(x, "close;revert 999999 300;close;"), 1);
        due("P6 a least balance of 99999", script(x, "least t 99999;least t 0;least t 99999;") + " " + x.least(4),
                "3 99999");
        due("P6 a least balance of 100000", script(x, "least t 100000;least t 0;") + " " + x.least(4), "0 99999");
        due("P6 undone as a whole", x.undo() + " " + x.undo() + " " + x.least(4), "4 3 0");
    }

    // ---- P4, P5 and P6: what a text with an error changes

    private static void errorsChangeNothing() {
        Scene bare = Checks::bare;
        String[] texts = {"#", "payee z least 100000;", "work z by zz 100;", "payee anna;payee anna;",
            "payee z;work y by z 99;", "payee z;work y by z 100;split y from 1 by z 100;split y from 1 by z 100;",
            "payee z;work y by z 100;sample y in y 1;", "payee z;payee y;work x by z 100;assign z in x to z 1 from 1 until 2;",
            "payee z;payee y;advance z 1 to z rate 1;", many("payee p#;", 0, 11)};
        for (String text : texts) {
            errorChangesNothing("P4 readText of " + text, bare, text, RoyaltyOffice::readText);
            errorChangesNothing("P5 amend of " + text, bare, text, RoyaltyOffice::amend);
            errorChangesNothing("P6 runScript of " + text, bare, text, RoyaltyOffice::runScript);
        }
        String[] scripts = {"pass 1;close;#", "pass 1;repeat 21 ();", "pass 1;income anna 1;",
            "pass 1;repeat 1 (repeat 1 (repeat 1 ();););", many("close;", 0, 31)};
        for (String text : scripts) {
            errorChangesNothing("P6 runScript of " + text, bare, text, RoyaltyOffice::runScript);
        }
    }

    private static void errorChangesNothing(String what, Scene scene, String text, Act read) {
        Scene fed = after(scene, x -> {
            feed(x, text);
            return null;
        });
        refused(what, IAE, () -> read.on(fed.make()));
        Scene then = after(fed, read);
        due(what + " changes only the buffer and the error", butErrorAndBuffer(then), butErrorAndBuffer(scene));
        due(what + " empties the buffer", buffered(then.make()), 0);
    }

    // P7 to P9: the error is that of the latest text, whichever call read it
    private static void errorOfTheLatest() {
        RoyaltyOffice x = new RoyaltyOffice();
        due("P7 P8 P9 no such call yet", error(x), "0 -1 0");
        feed(x, "payee a;work w by a 99;");
        refused("P4 an error", IAE, x::readText);
        due("P7 P8 P9 of readText", error(x), "5 22 1");
        refused("P46 no work", IOOBE, () -> x.income(0, 1));
        refused("P47 no days", IAE, () -> x.pass(-1));
        x.undo();
        x.save();
        x.restore();
        x.close();
        x.truncate(0);
        due("P7 P8 P9 other calls leave it", error(x), "5 22 1");
        x.amend();
        due("P7 P8 P9 none of the latest amend", error(x), "0 -1 0");
        feed(x, "pass 1");
        refused("P6 an error", IAE, x::runScript);
        due("P7 P8 P9 of runScript", error(x), "1 6 0");
        feed(x, "payee a;work a");
        refused("P5 an error", IAE, x::amend);
        due("P7 P8 P9 of amend, no reason", error(x), "4 13 0");
        x.runScript();
        due("P7 P8 P9 none of the latest script", error(x), "0 -1 0");
        feed(x, "payee a;payee b;advance a 1 to a rate 1;");
        refused("P5 an error", IAE, x::amend);
        due("P9 the greatest reason", error(x), "5 39 7");
        x.readText();
        due("P7 P8 P9 none of the latest readText", error(x), "0 -1 0");
        feed(x, "#");
        refused("P5 an error", IAE, x::amend);
        due("P8 the first byte", error(x), "1 0 0");
    }
}
