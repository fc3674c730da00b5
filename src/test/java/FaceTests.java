import java.io.IOException;
import java.lang.reflect.Constructor;
import java.lang.reflect.Field;
import java.lang.reflect.Method;
import java.lang.reflect.Modifier;
import java.nio.file.Files;
import java.nio.file.Path;
import java.util.Arrays;
import java.util.List;
import java.util.Set;
import java.util.TreeSet;
import java.util.regex.Matcher;
import java.util.regex.Pattern;

/** The public face of the document, and those rules of LANGUAGE.md that a test can see. */
public final class FaceTests {
    private static final String FACE = "feed truncate readText amend runScript errorCode errorPosition why count least"
            + " splits splitOn share owners sources source roots offspring assignment left nextReversion"
            + " revertingWithin advance owed firstOpen balance total earnedFrom came dearestWork part richest payable"
            + " lines line statement statementDay current wouldCome wouldEarn wouldGrow amountToRecoup wouldEarnOn"
            + " bestDay income pass revert setLeast close report reportLines reportByte undo save restore";
    private static final List<String> RECURSIVE =
            Arrays.asList("readCommands", "readCommand", "readRepeat", "runCommands", "repeat");
    private static final long MOST_BYTES = 3_000_000;
    private static int wrong;

    private static void due(String what, boolean holds) {
        if (!holds) {
            wrong++;
            System.out.println("does not hold: " + what);
        }
    }

    public static void main(String[] args) throws IOException {
        Set<String> face = new TreeSet<>(Arrays.asList(FACE.split(" ")));
        face(face);
        List<Class<?>> nested = Arrays.asList(RoyaltyOffice.class.getDeclaredClasses());
        due("at most twelve classes", nested.size() < 12);
        members(RoyaltyOffice.class);
        for (Class<?> c : nested) {
            members(c);
            for (Method m : c.getDeclaredMethods()) {
                due(c.getSimpleName() + "." + m.getName() + " is no name of the face", !face.contains(m.getName()));
            }
        }
        source();
        room();
        if (wrong != 0) {
            System.exit(1);
        }
        System.out.println("the face and the rules stand");
    }

    private static void face(Set<String> face) {
        Set<String> methods = new TreeSet<>();
        for (Method m : RoyaltyOffice.class.getDeclaredMethods()) {
            if (Modifier.isPublic(m.getModifiers())) {
                due("one method " + m.getName(), methods.add(m.getName()));
            } else {
                due(m.getName() + " is private", Modifier.isPrivate(m.getModifiers()));
                due(m.getName() + " is no name of the face", !face.contains(m.getName()));
            }
        }
        due("the methods of the face", methods.equals(face));
        for (Field f : RoyaltyOffice.class.getDeclaredFields()) {
            due(f.getName() + " is private", f.getName().equals("NONE") || Modifier.isPrivate(f.getModifiers()));
        }
        Constructor<?>[] constructors = RoyaltyOffice.class.getDeclaredConstructors();
        due("one constructor without parameters",
                constructors.length == 1 && constructors[0].getParameterCount() == 0);
        due("final", Modifier.isFinal(RoyaltyOffice.class.getModifiers()));
    }

    private static void members(Class<?> c) {
        int fields = 0;
        for (Field f : c.getDeclaredFields()) {
            if (Modifier.isStatic(f.getModifiers())) {
                due(c.getSimpleName() + "." + f.getName() + " is a constant", Modifier.isFinal(f.getModifiers())
                        && (f.getType() == int.class || f.getType() == String.class));
            } else {
                fields++;
            }
        }
        due(c.getSimpleName() + " has at most twenty fields", fields <= 20);
        for (Method m : c.getDeclaredMethods()) {
            due(m.getName() + " has at most seven parameters", m.getParameterCount() <= 7);
            due(m.getName() + " calls itself by others, and is private",
                    !RECURSIVE.contains(m.getName()) || Modifier.isPrivate(m.getModifiers()));
        }
    }

    private static void source() throws IOException {
        String text = Files.readString(Path.of("src/main/java/RoyaltyOffice.java"));
        String code = text.replaceAll("(?s)/\\*.*?\\*/", "").replaceAll("//[^\n]*", "");
        for (String no : new String[] {"->", "::", "try", "catch", "finally", "synchronized", "assert", "instanceof",
            "System.out", "Exact", "package", "Object", "protected", "\\(Office\\)"}) {
            due("no " + no, !Pattern.compile(no.matches("\\w+") ? "\\b" + no + "\\b" : no).matcher(code).find());
        }
        Matcher imports = Pattern.compile("import ([^;]+);").matcher(code);
        while (imports.find()) {
            due("no import " + imports.group(1), imports.group(1).equals("java.util.Arrays"));
        }
        Matcher thrown = Pattern.compile("throw ([^;]+);").matcher(code);
        while (thrown.find()) {
            due("throw " + thrown.group(1),
                    thrown.group(1).matches("new (IllegalState|IllegalArgument|IndexOutOfBounds)Exception\\(\\)"));
        }
        due("signs of ASCII", text.chars().allMatch(c -> c < 128));
    }

    /** The dearest calls make no objects: all rows are made by the constructor. */
    private static void room() {
        com.sun.management.ThreadMXBean threads =
                (com.sun.management.ThreadMXBean) java.lang.management.ManagementFactory.getThreadMXBean();
        long id = Thread.currentThread().getId();
        long before = threads.getThreadAllocatedBytes(id);
        RoyaltyOffice x = new RoyaltyOffice();
        for (int n = 0; n < 40; n++) {
            x.feed(0x70617965, 0x6520616e, 0x6e613b20, 0x20202020, 0x20202020);
            x.readText();
            x.feed(0x776f726b, 0x20772062, 0x7920616e, 0x6e612031, 0x30303b20);
            x.amend();
            x.feed(0x72657065, 0x61742032, 0x30282069, 0x6e636f6d, 0x65207720);
            x.feed(0x39393b20, 0x293b2020, 0x20202020, 0x20202020, 0x20202020);
            x.runScript();
            x.income(0, 9999999);
            x.bestDay(0, 9999999, 0);
            x.report();
            x.reportLines();
            x.close();
            x.save();
        }
        long made = threads.getThreadAllocatedBytes(id) - before;
        due("one object and 521 calls make " + made + " bytes", made < MOST_BYTES);
    }
}
