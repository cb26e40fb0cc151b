import java.lang.reflect.Constructor;
import java.lang.reflect.Field;
import java.lang.reflect.Method;
import java.lang.reflect.Modifier;
import java.nio.file.Files;
import java.nio.file.Path;
import java.util.Arrays;
import java.util.Set;
import java.util.TreeSet;
import java.util.regex.Matcher;
import java.util.regex.Pattern;

/** The rules of LANGUAGE.md that can be seen from the class or its text, and the room that calls take. */
public final class LanguageTest {
    private static final String FACE = "feed5 end1 town0 fault1 door2 can1 hinders2 free2 pairs1 oil1 sum1 open1 shut1 "
            + "hinge1 off1 cart4 day0 wind0 undo0 redo0 orders1 most1 stuck1 feast2 never1 turn2 ask1 vow1 push4 gusts1 "
            + "good1 narrow2 widest4 spread3 far3 parts2 calm0 needs5 way5 make5 race2 lies1 heard2 untell1 later1 "
            + "tales2 firsts2 ahead4 image1 back1 about1";

    public static void main(String[] args) throws Exception {
        face();
        members();
        words();
        methodLengths();
        room();
        Checks.finish();
    }

    private static void face() {
        Set<String> got = new TreeSet<>();
        for (Method m : LaneDoors.class.getDeclaredMethods()) {
            if (Modifier.isPublic(m.getModifiers())) {
                got.add(m.getName() + m.getParameterCount());
                boolean isTold = Set.of("shut", "off", "undo", "redo", "untell").contains(m.getName());
                Checks.due(m.getName() + " is of its type", m.getReturnType() == (isTold ? boolean.class : int.class), true);
            }
        }
        Checks.due("the face is " + got, got.equals(new TreeSet<>(Arrays.asList(FACE.split(" ")))), true);
        Checks.due("final", Modifier.isFinal(LaneDoors.class.getModifiers()), true);
        Checks.due("one constructor", LaneDoors.class.getConstructors().length, 1);
    }

    private static void members() {
        Set<String> open = new TreeSet<>();
        for (Method m : LaneDoors.class.getDeclaredMethods()) {
            if (Modifier.isPublic(m.getModifiers())) {
                open.add(m.getName());
            }
        }
        for (Method m : LaneDoors.class.getDeclaredMethods()) {
            boolean isHidden = Modifier.isPrivate(m.getModifiers());
            Checks.due(m + " is of the face or private", isHidden || Modifier.isPublic(m.getModifiers()), true);
            Checks.due(m + " has a name of its own", isHidden && open.contains(m.getName()), false);
        }
        for (Field f : LaneDoors.class.getDeclaredFields()) {
            Checks.due(f + " is private or NONE", Modifier.isPrivate(f.getModifiers()) || f.getName().equals("NONE"), true);
        }
        Checks.due("classes", LaneDoors.class.getDeclaredClasses().length <= 11, true);
        for (Class<?> c : LaneDoors.class.getDeclaredClasses()) {
            Checks.due(c + " is static", Modifier.isStatic(c.getModifiers()), true);
            int fields = 0;
            for (Field f : c.getDeclaredFields()) {
                fields += Modifier.isStatic(f.getModifiers()) ? 0 : 1;
                Checks.due(f + " is final if static",
                        !Modifier.isStatic(f.getModifiers()) || Modifier.isFinal(f.getModifiers()), true);
            }
            Checks.due(c + " has few fields", fields <= 20, true);
            for (Constructor<?> k : c.getDeclaredConstructors()) {
                Checks.due(k + " takes few", k.getParameterCount() <= 7, true);
            }
            for (Method m : c.getDeclaredMethods()) {
                Checks.due(m + " takes few", m.getParameterCount() <= 7, true);
                Checks.due(m + " has a name of its own", open.contains(m.getName()), false);
            }
        }
    }

    private static String source() throws Exception {
        return Files.readString(Path.of("src/main/java/LaneDoors.java"));
    }

    private static String bare() throws Exception {
        return source().replaceAll("(?s)/\\*.*?\\*/", "").replaceAll("//[^\n]*", "")
                .replaceAll("\"[^\"\n]*\"", "\"\"").replaceAll("'(\\\\.|[^'\\\\])'", "' '");
    }

    private static void words() throws Exception {
        String text = bare();
        for (String word : new String[] {"throw", "throws", "try", "catch", "synchronized", "assert", "package",
            "protected", "volatile", "Object", "Map", "Set", "Random", "Thread", "float", "double", "goto"}) {
            Checks.due("no word " + word, Pattern.compile("\\b" + word + "\\b").matcher(text).find(), false);
        }
        for (String sign : new String[] {"->", "::", "Exact(", "@", "\"\" +", "+ \"\"", "static {"}) {
            Checks.due("no " + sign, text.contains(sign), false);
        }
        Matcher imports = Pattern.compile("import ([^;]*);").matcher(text);
        while (imports.find()) {
            Checks.due(imports.group(), Set.of("java.util.Arrays", "java.util.ArrayList", "java.util.List")
                    .contains(imports.group(1)), true);
        }
        Matcher library = Pattern.compile("\\b(Arrays|System|Integer|Math|Long)\\.(\\w+)").matcher(text);
        Set<String> listed = Set.of("Arrays.fill", "Arrays.copyOf", "Arrays.copyOfRange", "System.arraycopy",
                "Integer.bitCount", "Integer.numberOfTrailingZeros", "Integer.compare", "Math.max", "Math.min",
                "Math.abs", "Math.floorMod", "Math.floorDiv");
        while (library.find()) {
            Checks.due(library.group() + " is listed", listed.contains(library.group()), true);
        }
        for (char c : source().toCharArray()) {
            if (c > 126) {
                Checks.due("a sign beyond 126", c, 0);
            }
        }
    }

    private static void methodLengths() throws Exception {
        int line = 0;
        int start = 0;
        for (String text : source().split("\n")) {
            line++;
            if (text.matches(" {4}( {4})?\\w.*\\) \\{")) {
                start = line;
            }
            if (text.matches(" {4}( {4})?\\}") && start > 0) {
                Checks.due("the method at " + start + " is short", line - start <= 60, true);
                start = 0;
            }
        }
    }

    /** No call makes an object: all rows are made with the object that uses them. */
    private static void room() throws Exception {
        com.sun.management.ThreadMXBean bean =
                (com.sun.management.ThreadMXBean) java.lang.management.ManagementFactory.getThreadMXBean();
        LaneDoors x = new LaneDoors();
        String text = "lane l long 9 wide 2;lane m long 9 wide 2;corner l 0 with m 8;door a in l at 0 broad 2 left north;"
                + "door b in l at 1 broad 2 right south loose;door c in l at 4 broad 2 left north open;"
                + "door d in l at 3 broad 2 right south;oil broad*times+(not day);stock 99;";
        Checks.feed(x, text);
        x.town();
        for (int warm = 0; warm < 3; warm++) {
            allCalls(x);
        }
        long self = bean.getThreadAllocatedBytes(Thread.currentThread().getId());
        self = bean.getThreadAllocatedBytes(Thread.currentThread().getId()) - self;
        long before = bean.getThreadAllocatedBytes(Thread.currentThread().getId());
        allCalls(x);
        long taken = bean.getThreadAllocatedBytes(Thread.currentThread().getId()) - before - self;
        Checks.due("bytes that all calls took, " + taken + ",", taken <= 64, true);
    }

    private static int allCalls(LaneDoors x) {
        int sum = x.open(0) + x.hinge(3) + x.wind() + x.day() + x.cart(0, 0, 3, 1);
        sum += (x.shut(2) ? 1 : 0) + (x.off(3) ? 1 : 0) + (x.undo() ? 1 : 0) + (x.redo() ? 1 : 0);
        sum += x.orders(1) + x.most(0) + x.stuck(1) + x.feast(1, 0) + x.never(0) + x.turn(3, 0) + x.ask(0) + x.vow(0);
        sum += x.push(0, 0, 3, 1) + x.gusts(20) + x.good(1) + x.narrow(0, 0) + x.widest(0, 0, 1, 8) + x.spread(0, 0, 1);
        sum += x.far(0, 0, 1) + x.parts(1, 0) + x.calm() + x.needs(0, 0, 1, 0, 1) + x.way(0, 0, 1, 0, 1);
        sum += x.make(0, 0, 1, 0, 2) + x.race(1, 2) + x.lies(0) + x.heard(0, 1) + (x.untell(0) ? 1 : 0) + x.later(1);
        sum += x.tales(7, 1) + x.firsts(7, 1) + x.ahead(7, 0, 1, 1) + x.image(0) + x.back(0) + x.about(8);
        sum += x.feed(0x6f696c20, 0x313b0a20, 0, 0, 0) + x.town() + x.fault(0) + x.end(0) + x.oil(0) + x.sum(2);
        return sum + x.door(0, 3) + x.can(0) + x.hinders(0, 1) + x.free(0, 0) + x.pairs(0);
    }
}
