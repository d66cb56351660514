import java.lang.reflect.Constructor;
import java.lang.reflect.Field;
import java.lang.reflect.Method;
import java.lang.reflect.Modifier;
import java.util.ArrayList;
import java.util.List;

/** The sentences of "What it is" and the lines of "The public face". */
final class FaceBoundaries {
    private static final int NONE = Make.NONE;
    private static final String[] METHODS = {
        "public void builder(int sign) throws IndexOutOfBoundsException, IllegalStateException;",
        "public int term(int sign, int a, int b, int c) throws IndexOutOfBoundsException, "
            + "IllegalArgumentException, IllegalStateException;",
        "public int part(int t, int what);",
        "public int fact(int a, int b, boolean same) throws IndexOutOfBoundsException, IllegalStateException;",
        "public boolean undo();",
        "public boolean isOne(int a, int b) throws IndexOutOfBoundsException;",
        "public boolean clashes();",
        "public boolean isOther(int a, int b) throws IndexOutOfBoundsException;",
        "public int row(int t, int what) throws IndexOutOfBoundsException;",
        "public long reason(int a, int b) throws IndexOutOfBoundsException;",
        "public long clash();",
        "public long idle();",
        "public int about(int what);"};

    private final Sentences sentences;

    FaceBoundaries(Sentences sentences) {
        this.sentences = sentences;
    }

    void run() {
        last512thCall();
        oneClass();
        none();
        oneConstructor();
        methods();
    }

    /** An object with 99 calls behind it: 59 terms, of which term 58 stands alone, and 39 facts. */
    private static CongruenceRows with99Calls() {
        CongruenceRows x = new CongruenceRows();
        x.builder(1);
        Make.plain(x, 0);
        for (int t = 1; t < 58; t++) {
            Make.of(x, 1, t - 1);
        }
        Make.plain(x, 2);
        for (int f = 0; f < 38; f++) {
            x.fact(f, f + 1, false);
        }
        x.fact(58, 0, true);
        return x;
    }

    private CongruenceRows with511Calls() {
        CongruenceRows x = with99Calls();
        for (int call = 99; call < 511; call += 2) {
            int told = call;
            sentences.due("call " + (told + 1), 39, () -> x.fact(told % 50, 57, true));
            sentences.due("call " + (told + 2), true, x::undo);
        }
        return x;
    }

    private void last512thCall() {
        sentences.by("What it is", "An object is used for at most 512 calls after it has been made;");
        CongruenceRows[] x = new CongruenceRows[METHODS.length];
        for (int method = 0; method < x.length; method++) {
            x[method] = with511Calls();
        }
        sentences.due("the 512th is builder", "nothing", () -> Make.builder(x[0], 3));
        sentences.due("the 512th is term", 59, () -> Make.plain(x[1], 3));
        sentences.due("the 512th is part", 58, () -> x[2].part(57, 4));
        sentences.due("the 512th is fact", 39, () -> x[3].fact(57, 58, true));
        sentences.due("the 512th is undo", true, x[4]::undo);
        sentences.due("the 512th is isOne", true, () -> x[5].isOne(58, 0));
        sentences.due("the 512th is clashes", false, x[6]::clashes);
        sentences.due("the 512th is isOther", true, () -> x[7].isOther(57, 58));
        sentences.due("the 512th is row", 58, () -> x[8].row(0, 3));
        sentences.due("the 512th is reason", 1L << 38, () -> x[9].reason(0, 58));
        sentences.due("the 512th is clash", NONE, x[10]::clash);
        sentences.due("the 512th is idle", 0, x[11]::idle);
        sentences.due("the 512th is about", 39, () -> x[12].about(1));
    }

    private void oneClass() {
        sentences.by("The public face", "public final class CongruenceRows {");
        int modifiers = CongruenceRows.class.getModifiers();
        sentences.due("modifiers", "public final", () -> Modifier.toString(modifiers));
        sentences.due("package", "", () -> CongruenceRows.class.getPackageName());
    }

    private void none() {
        sentences.by("The public face", "public static final int NONE = -1;");
        List<String> open = new ArrayList<>();
        for (Field f : CongruenceRows.class.getDeclaredFields()) {
            if (!Modifier.isPrivate(f.getModifiers())) {
                open.add(f.toGenericString());
            }
        }
        sentences.due("is the only field", "[public static final int CongruenceRows.NONE]", () -> open);
        sentences.due("value", -1, () -> CongruenceRows.NONE);
    }

    private void oneConstructor() {
        sentences.by("The public face", "public CongruenceRows();");
        List<String> open = new ArrayList<>();
        for (Constructor<?> c : CongruenceRows.class.getDeclaredConstructors()) {
            open.add(c.toGenericString());
        }
        sentences.due("is the only one", "[public CongruenceRows()]", () -> open);
    }

    private void methods() {
        int open = 0;
        for (Method m : CongruenceRows.class.getDeclaredMethods()) {
            open += Modifier.isPrivate(m.getModifiers()) ? 0 : 1;
        }
        int found = open;
        for (String line : METHODS) {
            sentences.by("The public face", line);
            sentences.due("stands in the class", withoutNames(line), () -> line(line.replaceAll("\\(.*", "")));
        }
        sentences.due("is the last of the methods", METHODS.length, () -> found);
    }

    /** A line of the face as the machine tells it: without its parameters' names. */
    private static String withoutNames(String line) {
        int end = line.indexOf(')');
        return line.substring(0, end).replaceAll(" \\w+(,|$)", "$1") + line.substring(end);
    }

    private static String line(String start) {
        for (Method m : CongruenceRows.class.getDeclaredMethods()) {
            String told = m.toGenericString().replace("CongruenceRows.", "").replace("java.lang.", "")
                    .replace(",", ", ") + ";";
            if (told.startsWith(start + "(")) {
                return told;
            }
        }
        return "nothing";
    }
}
