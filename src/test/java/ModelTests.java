import java.util.ArrayList;
import java.util.Arrays;
import java.util.List;
import java.util.Random;
import java.util.TreeMap;

/**
 * Random runs of calls, each answer compared with that of a second, plain model of the document, which
 * was written apart from the program: with lists and strings, every day tried, every amount tried.
 */
public final class ModelTests {
    private static final int RUNS = 600;
    private static final int CALLS = 200;

    public static void main(String[] args) {
        int runs = args.length > 0 ? Integer.parseInt(args[0]) : RUNS;
        long firstSeed = args.length > 1 ? Long.parseLong(args[1]) : 1;
        int wrong = 0;
        for (long seed = firstSeed; seed < firstSeed + runs; seed++) {
            if (!new Run(seed).go() && ++wrong >= 5) {
                break;
            }
        }
        for (long seed = firstSeed; seed < firstSeed + runs * 20L; seed++) {
            if (!new Run(seed).texts() && ++wrong >= 5) {
                break;
            }
        }
        if (args.length > 0) {
            System.out.println(Run.CODES);
            System.out.println(Run.SEEN);
        }
        if (wrong != 0) {
            System.out.println(wrong + " runs differ from the model");
            System.exit(1);
        }
        System.out.println("all runs are as in the model");
    }

    // ------------------------------------------------------------------ a run

    /** One random run, on the program and on the model. */
    private static final class Run {
        static final TreeMap<String, Integer> CODES = new TreeMap<>();
        static final TreeMap<String, Integer> SEEN = new TreeMap<>();
        private static final String[] PAYEE_NAMES = {"anna", "bob", "cy", "dora", "eve", "finn", "gus", "hal",
            "ida", "jo", "kim", "abcdefgh"};
        private static final String[] WORK_NAMES = {"sa", "sb", "sc", "sd", "se", "sf", "sg", "sh", "si", "sj",
            "sk", "sl", "sm", "zzzzzzzz"};
        private final Random random;
        private final long seed;
        private final RoyaltyOffice office = new RoyaltyOffice();
        private final Model model = new Model();
        private final List<String> log = new ArrayList<>();
        private boolean right = true;

        Run(long seed) {
            this.seed = seed;
            this.random = new Random(seed);
        }

        private interface Call {
            Object answer();
        }

        private static String answerOf(Call call) {
            try {
                return String.valueOf(call.answer());
            } catch (RuntimeException e) {
                return "throws " + e.getClass().getSimpleName();
            }
        }

        private void check(String call, Call mine, Call due) {
            String got = answerOf(mine);
            String want = answerOf(due);
            log.add(call + " = " + want);
            SEEN.merge(call.replaceAll("\\(.*", "") + (want.startsWith("throws") ? " " + want : ""), 1, Integer::sum);
            if (right && !got.equals(want)) {
                right = false;
                System.out.println("seed " + seed + ": " + call + " answered " + got + ", due is " + want);
                for (int i = Math.max(0, log.size() - 60); i < log.size(); i++) {
                    System.out.println("    " + log.get(i));
                }
            }
        }

        private int upTo(int n) {
            return random.nextInt(n);
        }

        private int pick(int... of) {
            return of[upTo(of.length)];
        }

        private String pick(String... of) {
            return of[upTo(of.length)];
        }

        /** Feeds a text, and cuts off what was fed beyond it. */
        private void feed(String text) {
            int before = model.buffer.length();
            for (int i = 0; i < text.length(); i += 20) {
                int[] n = new int[5];
                for (int k = 0; k < 20; k++) {
                    int b = i + k < text.length() ? text.charAt(i + k) & 255 : upTo(256);
                    n[k / 4] = n[k / 4] << 8 | b;
                }
                check("feed", () -> office.feed(n[0], n[1], n[2], n[3], n[4]), () -> model.feed(n));
            }
            int length = Math.min(before + text.length(), model.buffer.length());
            check("truncate(" + length + ")", () -> office.truncate(length), () -> model.truncate(length));
            log.add("the text " + model.buffer.replace('\n', '~'));
        }

        boolean go() {
            newText();
            for (int n = 0; n < CALLS && right; n++) {
                if (upTo(3) == 0) {
                    change();
                } else {
                    ask();
                }
            }
            return right;
        }

        /** Texts with errors, many of them. */
        boolean texts() {
            for (int n = 0; n < 12 && right; n++) {
                boolean commands = upTo(4) == 0;
                boolean anew = n == 0 || upTo(6) == 0;
                feed(mutated(commands ? script()
                        : statements(1 + upTo(upTo(2) == 0 ? 8 : 40), anew ? new Model.State() : model.now)));
                int how = upTo(10);
                if (how == 0 || anew && !commands) {
                    check("readText", office::readText, model::readText);
                } else if (how == 1 || commands) {
                    check("runScript", office::runScript, model::runScript);
                } else {
                    check("amend", office::amend, model::amend);
                }
                askError();
                askOffice();
            }
            return right;
        }

        private void askError() {
            check("errorCode", office::errorCode, model::errorCode);
            check("errorPosition", office::errorPosition, model::errorPosition);
            check("why", office::why, () -> model.why);
            CODES.merge("code " + model.errorCode() + "/" + model.why, 1, Integer::sum);
        }

        private void newText() {
            feed(statements(6 + upTo(50), new Model.State()));
            check("readText", office::readText, model::readText);
            askError();
        }

        private void change() {
            Model.State s = model.now;
            int kind = upTo(20);
            int work = row(s.works.size());
            int payee = row(s.payees.size());
            int assignment = row(s.assignments.size());
            int amount = amount();
            if (kind < 6) {
                check("income(" + work + ", " + amount + ")", () -> office.income(work, amount),
                        () -> model.income(work, amount));
                askLines();
            } else if (kind < 8) {
                int days = pick(0, 1, 2, 5, 10, 40, 300, upTo(3000), -1, 9999, 10000, 9999 - s.day, 10000 - s.day);
                int some = days > 300 && upTo(3) > 0 ? 7 : days;
                check("pass(" + some + ")", () -> office.pass(some), () -> model.pass(some));
            } else if (kind == 8) {
                int day = upTo(2) == 0 ? s.day + upTo(30) - 3 : upTo(60);
                check("revert(" + assignment + ", " + day + ")", () -> office.revert(assignment, day),
                        () -> model.revert(assignment, day));
            } else if (kind == 9) {
                int least = pick(0, 1, 50, 500, 99999, 100000, -1, upTo(3000));
                check("setLeast(" + payee + ", " + least + ")", () -> office.setLeast(payee, least),
                        () -> model.setLeast(payee, least));
            } else if (kind < 12) {
                check("close", office::close, model::close);
            } else if (kind < 14) {
                feed(upTo(4) == 0 ? mutated(statements(1 + upTo(3), s)) : statements(1 + upTo(4), s));
                check("amend", office::amend, model::amend);
                askError();
            } else if (kind < 16) {
                feed(upTo(5) == 0 ? mutated(script()) : script());
                check("runScript", office::runScript, model::runScript);
                askError();
            } else if (kind < 18) {
                check("undo", office::undo, model::undo);
            } else if (kind == 18) {
                if (upTo(2) == 0) {
                    check("save", office::save, model::save);
                } else {
                    check("restore", office::restore, model::restore);
                }
            } else if (upTo(6) == 0) {
                newText();
            } else {
                int n = upTo(model.buffer.length() + 2) - 1;
                check("truncate(" + n + ")", () -> office.truncate(n), () -> model.truncate(n));
            }
            askOffice();
        }

        private int row(int rows) {
            return upTo(12) == 0 ? pick(-1, rows, Integer.MAX_VALUE, Integer.MIN_VALUE) : rows == 0 ? 0 : upTo(rows);
        }

        private int amount() {
            int k = upTo(20);
            return k == 0 ? pick(0, -1, 10000000, Integer.MAX_VALUE, Integer.MIN_VALUE)
                    : k == 1 ? pick(1, 9999999) : k < 8 ? 1 + upTo(40) : k < 16 ? 1 + upTo(3000) : 1 + upTo(9999999);
        }

        private int what(int most) {
            return upTo(10) == 0 ? pick(-1, most + 1, Integer.MIN_VALUE) : upTo(most + 1);
        }

        private void askLines() {
            check("lines", office::lines, () -> model.now.lines.size());
            for (int i = -1; i <= model.now.lines.size(); i++) {
                for (int what = 0; what < 4; what++) {
                    int line = i;
                    int column = what;
                    check("line(" + i + ", " + what + ")", () -> office.line(line, column),
                            () -> model.line(line, column));
                }
            }
        }

        private void askOffice() {
            for (int w = 0; w < 7; w++) {
                int what = w;
                check("count(" + w + ")", () -> office.count(what), () -> model.count(what));
            }
            for (int p = 0; p < model.now.payees.size(); p++) {
                int payee = p;
                check("balance(" + p + ")", () -> office.balance(payee), () -> model.now.payees.get(payee).balance);
                check("owed(" + p + ")", () -> office.owed(payee), () -> model.owed(payee));
            }
        }

        private void askReport(boolean ofLines) {
            String text = ofLines ? model.reportLines() : model.report();
            check(ofLines ? "reportLines" : "report", () -> ofLines ? office.reportLines() : office.report(),
                    () -> text.length());
            for (int i = -1; i <= text.length(); i++) {
                int at = i;
                check("reportByte(" + i + ")", () -> office.reportByte(at), () -> model.reportByte(at));
            }
        }

        private void ask() {
            Model.State s = model.now;
            int work = row(s.works.size());
            int other = row(s.works.size());
            int payee = row(s.payees.size());
            int amount = amount();
            int kind = upTo(37);
            switch (kind) {
                case 0: ask("least", payee, () -> office.least(payee), () -> model.payee(payee).least); break;
                case 1: ask("splits", work, () -> office.splits(work), () -> model.work(work).splits.size()); break;
                case 2: {
                    int day = pick(0, 9999, -1, 10000, upTo(100), upTo(10000));
                    check("splitOn(" + work + ", " + day + ")", () -> office.splitOn(work, day),
                            () -> model.splitOn(work, day));
                    break;
                }
                case 3: {
                    int split = upTo(6) - 1;
                    check("share(" + work + ", " + split + ", " + payee + ")", () -> office.share(work, split, payee),
                            () -> model.share(work, split, payee));
                    break;
                }
                case 4: ask("owners", work, () -> office.owners(work), () -> model.owners(work)); break;
                case 5: ask("sources", work, () -> office.sources(work), () -> model.work(work).sources.size()); break;
                case 6: {
                    int i = upTo(5) - 1;
                    int what = what(1);
                    check("source(" + work + ", " + i + ", " + what + ")", () -> office.source(work, i, what),
                            () -> model.source(work, i, what));
                    break;
                }
                case 7: ask("roots", work, () -> office.roots(work), () -> model.roots(work)); break;
                case 8: ask("offspring", work, () -> office.offspring(work), () -> model.offspring(work)); break;
                case 9: {
                    int assignment = row(s.assignments.size());
                    int what = what(6);
                    check("assignment(" + assignment + ", " + what + ")", () -> office.assignment(assignment, what),
                            () -> model.assignment(assignment, what));
                    break;
                }
                case 10: {
                    check("left(" + work + ", " + payee + ")", () -> office.left(work, payee),
                            () -> model.left(work, payee));
                    break;
                }
                case 11: check("nextReversion", office::nextReversion, model::nextReversion); break;
                case 12: {
                    int days = pick(0, 1, 5, 20, 9999, 10000, -1, upTo(100));
                    ask("revertingWithin", days, () -> office.revertingWithin(days),
                            () -> model.revertingWithin(days));
                    break;
                }
                case 13: {
                    int advance = row(s.advances.size());
                    int what = what(5);
                    check("advance(" + advance + ", " + what + ")", () -> office.advance(advance, what),
                            () -> model.advance(advance, what));
                    break;
                }
                case 14: ask("owed", payee, () -> office.owed(payee), () -> model.owed(payee)); break;
                case 15: ask("firstOpen", payee, () -> office.firstOpen(payee), () -> model.firstOpen(payee)); break;
                case 16: ask("balance", payee, () -> office.balance(payee), () -> model.payee(payee).balance); break;
                case 17: {
                    int what = what(3);
                    check("total(" + payee + ", " + what + ")", () -> office.total(payee, what),
                            () -> model.total(payee, what));
                    break;
                }
                case 18: {
                    check("earnedFrom(" + payee + ", " + work + ")", () -> office.earnedFrom(payee, work),
                            () -> model.earnedFrom(payee, work));
                    break;
                }
                case 19: ask("came", work, () -> office.came(work), () -> model.work(work).came); break;
                case 20: check("dearestWork", office::dearestWork, model::dearestWork); break;
                case 21: ask("part", payee, () -> office.part(payee), () -> model.part(payee)); break;
                case 22: check("richest", office::richest, model::richest); break;
                case 23: check("payable", office::payable, model::payable); break;
                case 24: askLines(); break;
                case 25: {
                    int i = upTo(7) - 1;
                    int what = what(4);
                    check("statement(" + i + ", " + payee + ", " + what + ")",
                            () -> office.statement(i, payee, what), () -> model.statement(i, payee, what));
                    break;
                }
                case 26: {
                    int i = upTo(7) - 1;
                    ask("statementDay", i, () -> office.statementDay(i), () -> model.statementDay(i));
                    break;
                }
                case 27: {
                    int what = what(2);
                    check("current(" + payee + ", " + what + ")", () -> office.current(payee, what),
                            () -> model.current(payee, what));
                    break;
                }
                case 28: {
                    check("wouldCome(" + work + ", " + amount + ", " + other + ")",
                            () -> office.wouldCome(work, amount, other), () -> model.wouldCome(work, amount, other));
                    break;
                }
                case 29: {
                    check("wouldEarn(" + work + ", " + amount + ", " + payee + ")",
                            () -> office.wouldEarn(work, amount, payee), () -> model.wouldEarn(work, amount, payee));
                    break;
                }
                case 30: case 31: {
                    check("wouldGrow(" + work + ", " + amount + ", " + payee + ")",
                            () -> office.wouldGrow(work, amount, payee), () -> model.wouldGrow(work, amount, payee));
                    break;
                }
                case 32: {
                    int advance = row(s.advances.size());
                    int most = pick(0, -1, 10000, 1, 1 + upTo(300), 1 + upTo(9999));
                    check("amountToRecoup(" + advance + ", " + work + ", " + most + ")",
                            () -> office.amountToRecoup(advance, work, most),
                            () -> model.amountToRecoup(advance, work, most));
                    break;
                }
                case 33: {
                    int day = pick(s.day, s.day - 1, 9999, 10000, s.day + upTo(40), upTo(100));
                    check("wouldEarnOn(" + work + ", " + amount + ", " + payee + ", " + day + ")",
                            () -> office.wouldEarnOn(work, amount, payee, day),
                            () -> model.wouldEarnOn(work, amount, payee, day));
                    break;
                }
                case 34: {
                    check("bestDay(" + work + ", " + amount + ", " + payee + ")",
                            () -> office.bestDay(work, amount, payee), () -> model.bestDay(work, amount, payee));
                    break;
                }
                case 35: askReport(false); break;
                case 36: askReport(true); break;
                default: break;
            }
        }

        private void ask(String name, int of, Call mine, Call due) {
            check(name + "(" + of + ")", mine, due);
        }

        // -------------------------------------------------------------- random texts

        private String shares(List<String> payees) {
            int n = Math.min(payees.size(), pick(1, 1, 2, 2, 3, 4));
            if (n == 0) {
                return "by nobody 100";
            }
            List<String> left = new ArrayList<>(payees);
            StringBuilder text = new StringBuilder("by");
            int rest = 100;
            for (int k = 0; k < n; k++) {
                int part = k == n - 1 ? rest : 1 + upTo(rest - (n - 1 - k));
                rest -= part;
                text.append(' ').append(left.remove(upTo(left.size()))).append(' ').append(part);
            }
            return text.toString();
        }

        private String any(List<String> of) {
            return of.isEmpty() ? "nobody" : of.get(upTo(of.size()));
        }

        private String otherThan(String name, List<String> of) {
            String other = any(of);
            for (int k = 0; k < 20 && other.equals(name) && upTo(60) > 0; k++) {
                other = any(of);
            }
            return other;
        }

        /** Statements, most of which fit the office and those before them. */
        private String statements(int n, Model.State s) {
            Model.State scratch = s.copy();
            StringBuilder text = new StringBuilder();
            for (int k = 0; k < n; k++) {
                String one = statement(names(scratch, true), names(scratch, false));
                if (model.buffer.length() + text.length() + one.length() > 880) {
                    break;
                }
                try {
                    new Model.Reader(Model.tokens(one)).office(scratch);
                    text.append(one);
                } catch (Model.Fault f) {
                    if (upTo(60) == 0) {
                        text.append(one);
                    }
                }
            }
            return text.toString();
        }

        private static List<String> names(Model.State s, boolean ofPayees) {
            List<String> names = new ArrayList<>();
            if (ofPayees) {
                s.payees.forEach(p -> names.add(p.name));
            } else {
                s.works.forEach(w -> names.add(w.name));
            }
            return names;
        }

        private String statement(List<String> payees, List<String> works) {
            int kind = upTo(24);
            if (payees.size() < 3 || (kind < 3 && payees.size() < 10)) {
                String name = PAYEE_NAMES[payees.size() % PAYEE_NAMES.length];
                return "payee " + name + (upTo(2) == 0 ? "" : " least " + upTo(2000)) + ";";
            }
            if (works.isEmpty() || (kind < 6 && works.size() < 12)) {
                String name = WORK_NAMES[works.size() % WORK_NAMES.length];
                String text = "work " + name + " " + shares(payees) + ";";
                return text;
            }
            if (kind < 9 && works.size() < 12) {
                String name = WORK_NAMES[works.size() % WORK_NAMES.length];
                String text = "cover " + name + " of " + any(works) + " " + (1 + upTo(70)) + "\n" + shares(payees)
                        + " ;";
                return text;
            }
            if (kind < 12) {
                int a = upTo(works.size());
                int b = upTo(works.size());
                if (a == b && upTo(30) > 0) {
                    return "";
                }
                return "sample " + works.get(Math.min(a, b)) + " in " + works.get(Math.max(a, b)) + " "
                        + (1 + upTo(30)) + ";";
            }
            if (kind < 15) {
                return "split " + any(works) + " from " + (1 + upTo(20) + upTo(2) * upTo(100)) + " " + shares(payees)
                        + ";";
            }
            if (kind < 19) {
                int first = upTo(30);
                String from = any(payees);
                String to = otherThan(from, payees);
                return "assign " + from + " in " + any(works) + " to " + to + " " + (1 + upTo(60)) + " from "
                        + first + " until " + (first + 1 + upTo(40)) + ";";
            }
            String lender = any(payees);
            return "advance " + lender + " " + pick(1 + upTo(50), 1 + upTo(2000), 1 + upTo(999999)) + " to "
                    + otherThan(lender, payees) + " rate " + pick(100, 50, 1 + upTo(100))
                    + (upTo(2) == 0 ? "" : " on " + any(works)) + ";";
        }

        private String script() {
            StringBuilder text = new StringBuilder();
            int n = upTo(upTo(8) == 0 ? 34 : 7);
            for (int k = 0; k < n && text.length() < 600; k++) {
                text.append(command(0)).append(pick(";", "; ", " ;\n"));
            }
            return text.toString();
        }

        private String command(int depth) {
            Model.State s = model.now;
            String work = s.works.isEmpty() ? "nowork" : s.works.get(upTo(s.works.size())).name;
            String payee = s.payees.isEmpty() ? "nobody" : s.payees.get(upTo(s.payees.size())).name;
            switch (upTo(10)) {
                case 0: case 1: case 2: case 3:
                    return "income " + work + " " + (upTo(20) == 0 ? 0 : 1 + upTo(5000));
                case 4:
                    return "pass " + (upTo(15) == 0 ? pick(10000, 999999, 9999) : upTo(9));
                case 5:
                    return upTo(3) > 0 ? "close" : "revert " + upTo(Math.max(1, s.assignments.size())) + " "
                            + (s.day + upTo(20));
                case 6:
                    return "least " + payee + " " + (upTo(10) == 0 ? pick(99999, 100000) : upTo(3000));
                case 7:
                    return "close";
                default:
                    if (depth == (upTo(12) == 0 ? 3 : 2)) {
                        return "close";
                    }
                    StringBuilder text = new StringBuilder("repeat " + (upTo(20) == 0 ? pick(0, 20, 21) : 1 + upTo(4))
                            + " (");
                    int n = upTo(4);
                    for (int k = 0; k < n; k++) {
                        text.append(command(depth + 1)).append(";");
                    }
                    return text.append(")").toString();
            }
        }

        /** A text with up to two places changed, in bytes or in tokens. */
        private String mutated(String text) {
            StringBuilder t = new StringBuilder(text);
            int times = upTo(3);
            for (int k = 0; k < times; k++) {
                if (t.length() == 0) {
                    t.append("payee");
                }
                int i = upTo(t.length());
                switch (upTo(7)) {
                    case 0: t.setLength(i); break;
                    case 1: t.deleteCharAt(i); break;
                    case 2: t.insert(i, pick(";", "(", ")", "a", "zzzzzzz", "0", "00000", "\u0000", "A", "\n", "\u00e9"));
                        break;
                    case 3: t.setCharAt(i, "abz019;() \n-".charAt(upTo(12))); break;
                    default: {
                        List<String> parts = new ArrayList<>(Arrays.asList(t.toString().split(" ", -1)));
                        int at = upTo(parts.size());
                        String with = pick("by", "of", "in", "to", "from", "until", "rate", "on", "least", "payee",
                                "repeat", "close", "0", "1", "90", "91", "100", "101", "9999", "10000", "99999",
                                "100000", "999999", "1000000", pick(PAYEE_NAMES), pick(WORK_NAMES), ";", "x", "50",
                                "anna", "sa", "21", "20");
                        if (upTo(3) == 0) {
                            parts.add(at, with);
                        } else {
                            parts.set(at, with);
                        }
                        t = new StringBuilder(String.join(" ", parts));
                        break;
                    }
                }
            }
            return t.length() > 880 ? t.substring(0, 880) : t.toString();
        }
    }

    // ------------------------------------------------------------------ the model

    /** The document once more, as plainly as it goes. */
    private static final class Model {
        static final class Payee {
            String name;
            int least;
            long balance;
            long[] total = new long[4];
            long[] current = new long[3];
            TreeMap<Integer, Long> from = new TreeMap<>();

            Payee copy() {
                Payee p = new Payee();
                p.name = name;
                p.least = least;
                p.balance = balance;
                p.total = total.clone();
                p.current = current.clone();
                p.from = new TreeMap<>(from);
                return p;
            }
        }

        static final class Split {
            int day;
            List<int[]> shares = new ArrayList<>();
        }

        static final class Work {
            String name;
            long came;
            List<int[]> sources = new ArrayList<>();
            List<Split> splits = new ArrayList<>();

            Work copy() {
                Work w = new Work();
                w.name = name;
                w.came = came;
                w.sources.addAll(sources);
                w.splits.addAll(splits);
                return w;
            }
        }

        static final class State {
            int day;
            int closed;
            List<Payee> payees = new ArrayList<>();
            List<Work> works = new ArrayList<>();
            List<int[]> assignments = new ArrayList<>();
            List<int[]> advances = new ArrayList<>();
            List<int[]> lines = new ArrayList<>();
            List<TreeMap<Integer, long[]>> statements = new ArrayList<>();
            List<Integer> statementDays = new ArrayList<>();

            State copy() {
                State s = new State();
                s.day = day;
                s.closed = closed;
                payees.forEach(p -> s.payees.add(p.copy()));
                works.forEach(w -> s.works.add(w.copy()));
                assignments.forEach(a -> s.assignments.add(a.clone()));
                advances.forEach(a -> s.advances.add(a.clone()));
                s.lines.addAll(lines);
                s.statements.addAll(statements);
                s.statementDays.addAll(statementDays);
                return s;
            }
        }

        static final class Fault extends RuntimeException {
            private static final long serialVersionUID = 1L;
            final int code;
            final int position;
            final int reason;

            Fault(int code, int position, int reason) {
                this.code = code;
                this.position = position;
                this.reason = reason;
            }
        }

        static final List<String> QUOTED = Arrays.asList("payee", "least", "work", "cover", "of", "sample", "in",
                "split", "from", "assign", "to", "until", "advance", "rate", "on", "by", "income", "pass", "revert",
                "close", "repeat");

        State now = new State();
        State saved;
        List<State> undo = new ArrayList<>();
        String buffer = "";
        String report;
        int code;
        int position = -1;
        int why;

        // -------- checks

        private static void index(boolean holds) {
            if (!holds) {
                throw new IndexOutOfBoundsException();
            }
        }

        private static void argument(boolean holds) {
            if (!holds) {
                throw new IllegalArgumentException();
            }
        }

        Payee payee(int p) {
            index(p >= 0 && p < now.payees.size());
            return now.payees.get(p);
        }

        Work work(int w) {
            index(w >= 0 && w < now.works.size());
            return now.works.get(w);
        }

        private static void amountIn(int amount) {
            argument(amount >= 1 && amount <= 9999999);
        }

        // -------- buffer and texts

        int feed(int[] n) {
            if (buffer.length() + 20 > 900) {
                throw new IllegalStateException();
            }
            for (int k = 0; k < 20; k++) {
                buffer += (char) (n[k / 4] >> 8 * (3 - k % 4) & 255);
            }
            return buffer.length();
        }

        int truncate(int n) {
            argument(n >= 0 && n <= buffer.length());
            buffer = buffer.substring(0, n);
            return n;
        }

        int errorCode() {
            return code;
        }

        int errorPosition() {
            return position;
        }

        /** Tokens as {kind, text, position}; the kinds are w, n, ;, (, ), ? and, at the end, $. */
        private static List<String[]> tokens(String text) {
            List<String[]> list = new ArrayList<>();
            java.util.regex.Matcher m = java.util.regex.Pattern.compile("[a-z]+|[0-9]+|[^ \n]").matcher(text);
            while (m.find()) {
                String t = m.group();
                char c = t.charAt(0);
                String kind = c >= 'a' && c <= 'z' ? t.length() <= 8 ? "w" : "?"
                        : c >= '0' && c <= '9' ? t.length() <= 6 ? "n" : "?" : ";()".indexOf(c) >= 0 ? t : "?";
                list.add(new String[] {kind, t, String.valueOf(m.start())});
            }
            list.add(new String[] {"$", "", String.valueOf(text.length())});
            return list;
        }

        private interface Reading {
            int read(Reader r);
        }

        private int reading(Reading reading) {
            String text = buffer;
            buffer = "";
            code = 0;
            position = -1;
            why = 0;
            try {
                return reading.read(new Reader(tokens(text)));
            } catch (Fault f) {
                code = f.code;
                position = f.position;
                why = f.reason;
                throw new IllegalArgumentException();
            }
        }

        int readText() {
            return reading(r -> {
                State s = new State();
                r.office(s);
                now = s;
                undo.clear();
                return now.works.size();
            });
        }

        int amend() {
            return reading(r -> {
                State s = now.copy();
                int n = r.office(s);
                push();
                now = s;
                return n;
            });
        }

        int runScript() {
            return reading(r -> {
                List<Object[]> script = r.script(now, 0);
                push();
                int[] done = {0};
                run(script, done);
                return done[0];
            });
        }

        private boolean run(List<Object[]> script, int[] done) {
            for (Object[] c : script) {
                if (c[0].equals("repeat")) {
                    @SuppressWarnings("unchecked")
                    List<Object[]> inner = (List<Object[]>) c[2];
                    for (int k = 0; k < (Integer) c[1]; k++) {
                        if (!run(inner, done)) {
                            return false;
                        }
                    }
                    continue;
                }
                if (done[0] == 40) {
                    return false;
                }
                List<State> before = new ArrayList<>(undo);
                try {
                    switch ((String) c[0]) {
                        case "income": income((Integer) c[1], (Integer) c[2]); break;
                        case "pass": pass((Integer) c[1]); break;
                        case "revert": revert((Integer) c[1], (Integer) c[2]); break;
                        case "least": setLeast((Integer) c[1], (Integer) c[2]); break;
                        default: close(); break;
                    }
                } catch (RuntimeException e) {
                    return false;
                } finally {
                    undo = before;
                }
                done[0]++;
            }
            return true;
        }

        /** Reads tokens; a fault is thrown at the first error. */
        static final class Reader {
            final List<String[]> tokens;
            int at;
            int commands;
            State s;

            Reader(List<String[]> tokens) {
                this.tokens = tokens;
            }

            String kind() {
                return tokens.get(at)[0];
            }

            String text() {
                return tokens.get(at)[1];
            }

            void failIf(boolean wrong, int code, int reason) {
                if (wrong) {
                    throw new Fault(code, Integer.parseInt(tokens.get(at)[2]), reason);
                }
            }

            boolean isWord(String w) {
                return kind().equals("w") && text().equals(w);
            }

            void word(String w) {
                failIf(!isWord(w), 1, 0);
                at++;
            }

            void sign(String sign) {
                failIf(!kind().equals(sign), 1, 0);
                at++;
            }

            int number(int low, int high) {
                failIf(!kind().equals("n"), 1, 0);
                int n = Integer.parseInt(text());
                failIf(n < low || n > high, 2, 0);
                at++;
                return n;
            }

            boolean isName() {
                return kind().equals("w") && !QUOTED.contains(text());
            }

            String name() {
                failIf(!isName(), 1, 0);
                return text();
            }

            int payeeOf(String name) {
                for (int i = 0; i < s.payees.size(); i++) {
                    if (s.payees.get(i).name.equals(name)) {
                        return i;
                    }
                }
                return -1;
            }

            int workOf(String name) {
                for (int i = 0; i < s.works.size(); i++) {
                    if (s.works.get(i).name.equals(name)) {
                        return i;
                    }
                }
                return -1;
            }

            int payee() {
                int p = payeeOf(name());
                failIf(p < 0, 3, 0);
                at++;
                return p;
            }

            int work() {
                int w = workOf(name());
                failIf(w < 0, 3, 0);
                at++;
                return w;
            }

            String fresh() {
                String n = name();
                failIf(payeeOf(n) >= 0 || workOf(n) >= 0, 4, 0);
                at++;
                return n;
            }

            List<int[]> shares() {
                word("by");
                List<int[]> shares = new ArrayList<>();
                do {
                    int p = payeeOf(name());
                    failIf(p < 0, 3, 0);
                    for (int[] sh : shares) {
                        failIf(sh[0] == p, 4, 0);
                    }
                    failIf(shares.size() == 4, 6, 0);
                    at++;
                    shares.add(new int[] {p, number(1, 100)});
                } while (isName());
                return shares;
            }

            static boolean whole(List<int[]> shares) {
                return shares.stream().mapToInt(x -> x[1]).sum() == 100;
            }

            void end(boolean... unfitByReason) {
                failIf(!kind().equals(";"), 1, 0);
                for (int k = 1; k < unfitByReason.length; k++) {
                    failIf(unfitByReason[k], 5, k);
                }
                at++;
            }

            int office(State state) {
                s = state;
                int n = 0;
                while (!kind().equals("$")) {
                    statement();
                    n++;
                }
                return n;
            }

            void statement() {
                failIf(!kind().equals("w"), 1, 0);
                String first = text();
                switch (first) {
                    case "payee": {
                        failIf(s.payees.size() == 10, 6, 0);
                        at++;
                        Payee p = new Payee();
                        p.name = fresh();
                        if (isWord("least")) {
                            at++;
                            p.least = number(0, 99999);
                        }
                        end();
                        s.payees.add(p);
                        break;
                    }
                    case "work": case "cover": {
                        failIf(s.works.size() == 12, 6, 0);
                        at++;
                        Work w = new Work();
                        w.name = fresh();
                        if (first.equals("cover")) {
                            word("of");
                            int of = work();
                            w.sources.add(new int[] {of, number(1, 90)});
                        }
                        Split sp = new Split();
                        sp.shares = shares();
                        w.splits.add(sp);
                        end(false, !whole(sp.shares));
                        s.works.add(w);
                        break;
                    }
                    case "sample": {
                        at++;
                        int of = work();
                        word("in");
                        int in = workOf(name());
                        failIf(in < 0, 3, 0);
                        failIf(s.works.get(in).sources.size() == 3, 6, 0);
                        at++;
                        int n = number(1, 90);
                        int sum = n;
                        boolean has = of >= in;
                        for (int[] src : s.works.get(in).sources) {
                            sum += src[1];
                            has |= src[0] == of;
                        }
                        end(false, false, false, has, sum > 90);
                        s.works.get(in).sources.add(new int[] {of, n});
                        break;
                    }
                    case "split": {
                        at++;
                        int w = workOf(name());
                        failIf(w < 0, 3, 0);
                        List<Split> splits = s.works.get(w).splits;
                        failIf(splits.size() == 4, 6, 0);
                        at++;
                        word("from");
                        Split sp = new Split();
                        sp.day = number(1, 9999);
                        sp.shares = shares();
                        end(false, !whole(sp.shares), sp.day <= splits.get(splits.size() - 1).day);
                        splits.add(sp);
                        break;
                    }
                    case "assign": {
                        failIf(s.assignments.size() == 16, 6, 0);
                        at++;
                        int p = payee();
                        word("in");
                        int w = work();
                        word("to");
                        int to = payee();
                        int n = number(1, 100);
                        word("from");
                        int a = number(0, 9999);
                        word("until");
                        int b = number(1, 9999);
                        boolean over = false;
                        for (int d = a; d < b && !over; d++) {
                            int sum = n;
                            for (int[] other : s.assignments) {
                                if (other[0] == p && other[1] == w && other[4] <= d && d < other[5]) {
                                    sum += other[3];
                                }
                            }
                            over = sum > 100;
                        }
                        end(false, false, false, false, false, p == to || b <= a, over);
                        s.assignments.add(new int[] {p, w, to, n, a, b});
                        break;
                    }
                    case "advance": {
                        failIf(s.advances.size() == 12, 6, 0);
                        at++;
                        int p = payee();
                        int amount = number(1, 999999);
                        word("to");
                        int to = payee();
                        word("rate");
                        int rate = number(1, 100);
                        int on = -1;
                        if (isWord("on")) {
                            at++;
                            on = work();
                        }
                        end(false, false, false, false, false, false, false, p == to);
                        s.advances.add(new int[] {p, to, amount, rate, on, amount});
                        break;
                    }
                    default:
                        failIf(true, 1, 0);
                }
            }

            List<Object[]> script(State state, int depth) {
                s = state;
                List<Object[]> list = new ArrayList<>();
                while (!kind().equals(depth == 0 ? "$" : ")")) {
                    boolean command = kind().equals("w")
                            && Arrays.asList("income", "pass", "revert", "least", "close", "repeat").contains(text());
                    failIf(!command, 1, 0);
                    String c = text();
                    failIf(c.equals("repeat") && depth == 2, 4, 0);
                    failIf(commands == 30, 6, 0);
                    commands++;
                    at++;
                    switch (c) {
                        case "income": list.add(new Object[] {c, work(), number(0, 999999)}); break;
                        case "least": list.add(new Object[] {c, payee(), number(0, 999999)}); break;
                        case "pass": list.add(new Object[] {c, number(0, 999999)}); break;
                        case "revert": list.add(new Object[] {c, number(0, 999999), number(0, 999999)}); break;
                        case "close": list.add(new Object[] {c}); break;
                        default: {
                            int n = number(1, 20);
                            sign("(");
                            List<Object[]> inner = script(state, depth + 1);
                            sign(")");
                            list.add(new Object[] {c, n, inner});
                            break;
                        }
                    }
                    sign(";");
                }
                return list;
            }
        }

        // -------- the office

        int count(int what) {
            argument(what >= 0 && what <= 6);
            return new int[] {now.payees.size(), now.works.size(), now.assignments.size(), now.advances.size(),
                now.day, now.statements.size(), now.closed}[what];
        }

        private int splitIn(Work w, int day) {
            int split = 0;
            for (int k = 0; k < w.splits.size(); k++) {
                if (w.splits.get(k).day <= day) {
                    split = k;
                }
            }
            return split;
        }

        int splitOn(int w, int day) {
            work(w);
            argument(day >= 0 && day <= 9999);
            return splitIn(work(w), day);
        }

        int share(int w, int split, int p) {
            index(split >= 0 && split < work(w).splits.size());
            payee(p);
            return work(w).splits.get(split).shares.stream().filter(x -> x[0] == p).mapToInt(x -> x[1]).sum();
        }

        int owners(int w) {
            Work of = work(w);
            return of.splits.get(splitIn(of, now.day)).shares.stream().mapToInt(x -> 1 << x[0]).sum();
        }

        int source(int w, int i, int what) {
            index(i >= 0 && i < work(w).sources.size());
            argument(what == 0 || what == 1);
            return work(w).sources.get(i)[what];
        }

        int roots(int w) {
            int set = 0;
            for (int[] src : work(w).sources) {
                set |= 1 << src[0] | roots(src[0]);
            }
            return set;
        }

        int offspring(int w) {
            work(w);
            int set = 0;
            for (int o = 0; o < now.works.size(); o++) {
                set |= (roots(o) >> w & 1) << o;
            }
            return set;
        }

        private static boolean inForce(int[] a, int day) {
            return day >= a[4] && day < a[5];
        }

        int assignment(int a, int what) {
            index(a >= 0 && a < now.assignments.size());
            argument(what >= 0 && what <= 6);
            int[] of = now.assignments.get(a);
            return what == 6 ? inForce(of, now.day) ? 1 : 0 : of[what];
        }

        int left(int w, int p) {
            work(w);
            payee(p);
            return now.assignments.stream().filter(a -> a[0] == p && a[1] == w && inForce(a, now.day))
                    .mapToInt(a -> a[3]).sum();
        }

        int nextReversion() {
            return now.assignments.stream().mapToInt(a -> a[5]).filter(d -> d > now.day).min().orElse(-1);
        }

        int revertingWithin(int days) {
            argument(days >= 0 && days <= 9999);
            return (int) now.assignments.stream().filter(a -> a[5] > now.day && a[5] <= now.day + days).count();
        }

        int advance(int a, int what) {
            index(a >= 0 && a < now.advances.size());
            argument(what >= 0 && what <= 5);
            return now.advances.get(a)[what];
        }

        int owed(int p) {
            payee(p);
            return now.advances.stream().filter(a -> a[1] == p).mapToInt(a -> a[5]).sum();
        }

        int firstOpen(int p) {
            payee(p);
            for (int a = 0; a < now.advances.size(); a++) {
                if (now.advances.get(a)[1] == p && now.advances.get(a)[5] > 0) {
                    return a;
                }
            }
            return -1;
        }

        // -------- accounts

        long total(int p, int what) {
            payee(p);
            argument(what >= 0 && what <= 3);
            return payee(p).total[what];
        }

        long earnedFrom(int p, int w) {
            payee(p);
            work(w);
            return payee(p).from.getOrDefault(w, 0L);
        }

        int dearestWork() {
            int best = -1;
            for (int w = now.works.size() - 1; w >= 0; w--) {
                long came = now.works.get(w).came;
                if (came > 0 && (best < 0 || came >= now.works.get(best).came)) {
                    best = w;
                }
            }
            return best;
        }

        float part(int p) {
            payee(p);
            long all = now.payees.stream().mapToLong(x -> x.total[0]).sum();
            return all == 0 ? 0.0f : (float) payee(p).total[0] / (float) all;
        }

        int richest() {
            long most = now.payees.stream().mapToLong(p -> p.balance).max().orElse(0);
            int set = 0;
            for (int p = 0; p < now.payees.size(); p++) {
                set |= now.payees.get(p).balance == most ? 1 << p : 0;
            }
            return set;
        }

        int payable() {
            int set = 0;
            for (int p = 0; p < now.payees.size(); p++) {
                Payee of = now.payees.get(p);
                set |= of.balance > 0 && of.balance >= of.least ? 1 << p : 0;
            }
            return set;
        }

        int line(int i, int what) {
            index(i >= 0 && i < now.lines.size());
            argument(what >= 0 && what <= 3);
            return now.lines.get(i)[what];
        }

        long statement(int i, int p, int what) {
            index(i >= 0 && i < now.statements.size());
            payee(p);
            argument(what >= 0 && what <= 4);
            long[] row = now.statements.get(i).get(p);
            return row == null ? 0 : row[what];
        }

        int statementDay(int i) {
            index(i >= 0 && i < now.statements.size());
            return now.statementDays.get(i);
        }

        long current(int p, int what) {
            payee(p);
            argument(what >= 0 && what <= 2);
            return payee(p).current[what];
        }

        // -------- income

        /** Books an income on a day in a state. */
        private void book(State s, int work, int amount, int day) {
            int[] came = new int[s.works.size()];
            came[work] = amount;
            s.lines = new ArrayList<>();
            for (int w = s.works.size() - 1; w >= 0; w--) {
                if (came[w] == 0) {
                    continue;
                }
                Work of = s.works.get(w);
                of.came += came[w];
                int remains = came[w];
                for (int[] src : of.sources) {
                    int part = (int) (came[w] * (long) src[1] / 100);
                    came[src[0]] += part;
                    remains -= part;
                }
                List<int[]> shares = of.splits.get(splitIn(of, day)).shares;
                int[] parts = new int[shares.size()];
                int cents = remains;
                for (int k = 0; k < parts.length; k++) {
                    parts[k] = (int) (remains * (long) shares.get(k)[1] / 100);
                    cents -= parts[k];
                }
                for (int k = 0; cents > 0; k++, cents--) {
                    parts[k]++;
                }
                for (int k = 0; k < parts.length; k++) {
                    int own = parts[k];
                    for (int[] a : s.assignments) {
                        if (a[0] == shares.get(k)[0] && a[1] == w && inForce(a, day)) {
                            int given = (int) (parts[k] * (long) a[3] / 100);
                            earn(s, w, a[2], given);
                            own -= given;
                        }
                    }
                    earn(s, w, shares.get(k)[0], own);
                }
            }
        }

        private void earn(State s, int work, int payee, int amount) {
            if (amount < 1) {
                return;
            }
            int rest = amount;
            for (int[] a : s.advances) {
                if (a[1] == payee && a[5] > 0 && (a[4] == -1 || a[4] == work)) {
                    int kept = Math.min((int) (rest * (long) a[3] / 100), a[5]);
                    a[5] -= kept;
                    rest -= kept;
                    Payee lender = s.payees.get(a[0]);
                    lender.total[2] += kept;
                    lender.current[2] += kept;
                    lender.balance += kept;
                }
            }
            Payee p = s.payees.get(payee);
            p.total[0] += amount;
            p.current[0] += amount;
            p.total[1] += amount - rest;
            p.current[1] += amount - rest;
            p.balance += rest;
            p.from.merge(work, (long) amount, Long::sum);
            s.lines.add(new int[] {work, payee, amount, amount - rest});
        }

        private State after(int work, int amount, int day) {
            State s = now.copy();
            book(s, work, amount, day);
            return s;
        }

        int wouldCome(int w, int amount, int to) {
            work(w);
            work(to);
            amountIn(amount);
            return (int) (after(w, amount, now.day).works.get(to).came - work(to).came);
        }

        int wouldEarn(int w, int amount, int p) {
            work(w);
            payee(p);
            amountIn(amount);
            return wouldEarnOn(w, amount, p, now.day);
        }

        int wouldGrow(int w, int amount, int p) {
            work(w);
            payee(p);
            amountIn(amount);
            return (int) (after(w, amount, now.day).payees.get(p).balance - payee(p).balance);
        }

        int amountToRecoup(int a, int w, int most) {
            index(a >= 0 && a < now.advances.size());
            work(w);
            argument(most >= 1 && most <= 9999);
            if (now.advances.get(a)[5] == 0) {
                return 0;
            }
            for (int amount = 1; amount <= most; amount++) {
                if (after(w, amount, now.day).advances.get(a)[5] == 0) {
                    return amount;
                }
            }
            return -1;
        }

        int wouldEarnOn(int w, int amount, int p, int day) {
            work(w);
            payee(p);
            amountIn(amount);
            argument(day >= now.day && day <= 9999);
            return (int) (after(w, amount, day).payees.get(p).total[0] - payee(p).total[0]);
        }

        int bestDay(int w, int amount, int p) {
            work(w);
            payee(p);
            amountIn(amount);
            int best = -1;
            int most = -1;
            for (int day = now.day; day <= 9999; day++) {
                // Days in the thousands are all alike in these runs, but for those that a text can name.
                if (day > now.day + 400 && day % 97 != 0 && day < 9990) {
                    continue;
                }
                int earned = wouldEarnOn(w, amount, p, day);
                if (earned > most) {
                    most = earned;
                    best = day;
                }
            }
            return best;
        }

        // -------- changes

        private void push() {
            undo.add(now.copy());
            if (undo.size() > 5) {
                undo.remove(0);
            }
        }

        int income(int w, int amount) {
            work(w);
            amountIn(amount);
            push();
            book(now, w, amount, now.day);
            return now.lines.size();
        }

        int pass(int days) {
            argument(days >= 0 && days <= 9999 && now.day + days <= 9999);
            push();
            return now.day += days;
        }

        int revert(int a, int day) {
            index(a >= 0 && a < now.assignments.size());
            int[] of = now.assignments.get(a);
            argument(day >= now.day && day < of[5] && day > of[4]);
            push();
            int before = of[5];
            of[5] = day;
            return before;
        }

        int setLeast(int p, int amount) {
            payee(p);
            argument(amount >= 0 && amount <= 99999);
            push();
            int before = payee(p).least;
            payee(p).least = amount;
            return before;
        }

        long close() {
            push();
            long sum = 0;
            TreeMap<Integer, long[]> statement = new TreeMap<>();
            int set = payable();
            for (int k = 0; k < now.payees.size(); k++) {
                Payee p = now.payees.get(k);
                long paid = (set >> k & 1) != 0 ? p.balance : 0;
                p.balance -= paid;
                p.total[3] += paid;
                sum += paid;
                statement.put(k, new long[] {p.current[0], p.current[1], p.current[2], paid, p.balance});
                p.current = new long[3];
            }
            now.statements.add(0, statement);
            now.statementDays.add(0, now.day);
            if (now.statements.size() > 5) {
                now.statements.remove(5);
                now.statementDays.remove(5);
            }
            now.closed++;
            return sum;
        }

        // -------- reports, undo, save

        String report() {
            StringBuilder text = new StringBuilder();
            for (int p = 0; p < now.payees.size(); p++) {
                text.append(now.payees.get(p).name + ":" + now.payees.get(p).balance + " " + owed(p) + "\n");
            }
            report = text.toString();
            return report;
        }

        String reportLines() {
            StringBuilder text = new StringBuilder();
            for (int[] l : now.lines) {
                text.append(now.works.get(l[0]).name + " " + now.payees.get(l[1]).name + " " + l[2]
                        + (l[3] > 0 ? "-" + l[3] : "") + "\n");
            }
            report = text.toString();
            return report;
        }

        int reportByte(int i) {
            index(report != null && i >= 0 && i < report.length());
            return report.charAt(i);
        }

        int undo() {
            if (undo.isEmpty()) {
                return -1;
            }
            now = undo.remove(undo.size() - 1);
            return undo.size();
        }

        int save() {
            saved = now.copy();
            return now.day;
        }

        int restore() {
            if (saved == null) {
                throw new IllegalStateException();
            }
            now = saved.copy();
            undo.clear();
            return now.day;
        }
    }
}
