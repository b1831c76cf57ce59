import java.lang.management.ManagementFactory;
import java.lang.reflect.Constructor;
import java.lang.reflect.Field;
import java.lang.reflect.Method;
import java.lang.reflect.Modifier;
import java.nio.file.Files;
import java.nio.file.Path;
import java.util.Arrays;
import java.util.Set;
import java.util.TreeSet;
import java.util.regex.Matcher;
import java.util.regex.Pattern;

/** The face of the class, the rules of its language that can be seen in the source, and what its calls make. */
public final class FormTest {
    private static final String FACE = "int status()|long top()|long bottom()|boolean tray(int,int,int)"
        + "|boolean write(int,int,long)|long read(int,int)|boolean decant(int,int,int,int,int)"
        + "|int feed(int,int,int,int,int)|int see(int)|int feasts(int)|int fault(int)|int many(int)|int stuff(int,int)"
        + "|int mould(int,int)|int part(int,int)|int copyFirm(int)|int pour(int,int,int)|int empty(int)|int knock(int)"
        + "|int touch(int)|int carry(int,int)|int minute(int)|int warm(int)|int buy(int,int)|boolean rule(int)"
        + "|int firmIn(int,int)|int lasts(int)|int waits(int,int)|int fallIn()|int mix(int,int)|int mixPart(int,int,int)"
        + "|int strongest(int)|int fillings(int)|int shaken(int,int)|int way(int,int,int)|int reach(int)"
        + "|int fits(int,int,int)|int fitsBy(int,int,int,int)|int ask(int,int,int)|int game(int,int,int)"
        + "|int moveOf(int,int,int)|boolean bubbles(int,int)|boolean poise(int)|int live(int)|int lived(int)"
        + "|boolean mean(int,int)|int mark()|int back()";

    public static void main(String[] args) throws Exception {
        face();
        source(Files.readString(Path.of("src/main/java/JellyCathedral.java")));
        makesNothing();
        Check.end();
    }

    private static void same(String what, Object want, Object got) {
        if (!want.equals(got)) {
            System.out.println(what + ": " + got + ", due is " + want);
        }
        Check.due(what, true, want.equals(got));
    }

    private static void face() {
        Class<?> c = JellyCathedral.class;
        Set<String> open = new TreeSet<>();
        Set<String> names = new TreeSet<>();
        for (Method m : c.getDeclaredMethods()) {
            if (!Modifier.isPrivate(m.getModifiers())) {
                open.add(m.toString().replaceAll("JellyCathedral\\.", "").replaceFirst("^public ", ""));
                names.add(m.getName());
            }
        }
        same("methods", new TreeSet<>(Arrays.asList(FACE.split("\\|"))), open);
        Set<String> hidden = new TreeSet<>();
        hideNames(c, hidden);
        for (Class<?> inner : c.getDeclaredClasses()) {
            Check.due(inner + " is static", true, Modifier.isStatic(inner.getModifiers()));
            Check.due(inner + " has some twenty fields", true, inner.getDeclaredFields().length <= 20);
            hideNames(inner, hidden);
            for (Method m : inner.getDeclaredMethods()) {
                hidden.add(m.getName());
            }
        }
        hidden.retainAll(names);
        same("private methods with public names", new TreeSet<String>(), hidden);
        Set<String> fields = new TreeSet<>();
        for (Field f : c.getDeclaredFields()) {
            if (!Modifier.isPrivate(f.getModifiers())) {
                fields.add(f.toString());
            }
            if (Modifier.isStatic(f.getModifiers())) {
                Check.due(f + " is final", true, Modifier.isFinal(f.getModifiers()));
            }
        }
        same("fields", new TreeSet<>(Set.of("public static final int JellyCathedral.NONE")), fields);
        Constructor<?>[] made = c.getDeclaredConstructors();
        Check.due("one constructor", 1, made.length);
        Check.due("it is public", true, Modifier.isPublic(made[0].getModifiers()));
        Check.due("final", true, Modifier.isFinal(c.getModifiers()));
        Check.due("some twelve classes", true, c.getDeclaredClasses().length <= 11);
    }

    private static void hideNames(Class<?> c, Set<String> hidden) {
        for (Method m : c.getDeclaredMethods()) {
            Check.due(m + " takes seven at most", true, m.getParameterCount() <= 7);
            if (Modifier.isPrivate(m.getModifiers())) {
                hidden.add(m.getName());
            }
        }
    }

    private static void source(String all) {
        for (int i = 0; i < all.length(); i++) {
            Check.due("sign " + i, true, all.charAt(i) < 128);
        }
        String code = all.replaceAll("(?s)/\\*.*?\\*/", "").replaceAll("//[^\n]*", "");
        String[] never = {"throw", "throws", "try", "catch", "finally", "synchronized", "assert", "import", "package",
            "double", "float", "String", "StringBuilder", "Object", "System\\.(?!arraycopy)\\w+", "hashCode", "toString",
            "equals", "Thread", "Random", "static\\s*\\{", "->", "::", "volatile", "transient", "native"};
        for (String word : never) {
            Matcher m = Pattern.compile("(?<!\\w)" + word + "(?!\\w)").matcher(code);
            Check.due("no " + word, false, m.find());
        }
        methodsStayShort(code);
    }

    private static void methodsStayShort(String code) {
        Pattern head = Pattern.compile("( {4}| {8})(?!return|if|for|switch|while|else)[\\w\\[\\] ]+\\(.*\\) \\{");
        String name = null;
        String indent = "";
        int lines = 0;
        for (String line : code.split("\n")) {
            Matcher m = head.matcher(line);
            if (m.matches()) {
                name = line.trim();
                indent = m.group(1);
                lines = 0;
            }
            lines++;
            if (name != null && line.equals(indent + "}")) {
                Check.due(name + " is short", true, lines <= 60);
                name = null;
            }
        }
    }

    /** All that a run needs is made by the constructor: what calls make would never be given back. */
    private static void makesNothing() {
        com.sun.management.ThreadMXBean threads = (com.sun.management.ThreadMXBean) ManagementFactory.getThreadMXBean();
        long id = Thread.currentThread().getId();
        byte[] feasts = Check.bytes("pour low milk 1;loop 9;any;minute 1;end;knock low;");
        JellyCathedral x = Check.ofSee(Check.SEE);
        Check.feed(x, feasts);
        x.tray(0, 3, 60);
        long made = threads.getThreadAllocatedBytes(id);
        x = new JellyCathedral();
        made = threads.getThreadAllocatedBytes(id) - made;
        Check.due("a new object is small: " + made, true, made < 40000);
        Check.feed(x, Check.bytes(Check.SEE));
        long before = threads.getThreadAllocatedBytes(id);
        x.see(Check.SEE.length());
        x.feed(0x616e793b, 0x20202020, 0x20202020, 0x20202020, 0x20202020);
        x.feasts(20);
        for (int i = 0; i < 20; i++) {
            x.tray(0, 3, 60);
            x.decant(0, 0, 0, 1, 9);
            x.mark();
            x.pour(0, 1, 5);
            x.minute(9);
            x.knock(0);
            x.mix(0, 20);
            x.fits(0, 0, 0);
            x.ask(0, 0, 0);
            x.game(0, 1, 4);
            x.way(0, 2, 1);
            x.bubbles(12, 6);
            x.mean(0, 20);
            x.live(i);
            x.back();
        }
        long after = threads.getThreadAllocatedBytes(id);
        Check.due("calls make nothing: " + (after - before), true, after - before < 2000);
    }
}
