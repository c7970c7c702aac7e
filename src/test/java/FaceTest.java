import java.lang.reflect.Constructor;
import java.lang.reflect.Field;
import java.lang.reflect.Method;
import java.lang.reflect.Modifier;
import java.nio.file.Files;
import java.nio.file.Path;
import java.util.HashSet;
import java.util.Set;
import java.util.TreeSet;

/** The public face is the document's, and what LANGUAGE.md rules out is not in the text. */
public final class FaceTest {
    private static final String[] FACE = {
        "feed IIIII I", "army I I", "fault  I", "count I I", "man II I", "row II I", "nights I I", "put II I",
        "heel II I", "loud II I", "change II Z", "undo  I", "then III I", "honour II I", "first I I", "mistaken I I",
        "unsung I I", "far II I", "nearest  I", "apart I I", "tread I I", "passes II I", "hidden I I", "toSock I I",
        "review I I", "see IIIZ I", "forget  V", "limped I I", "next I I", "byMud III I", "game III I",
        "reviews III I", "nextTo I I", "alike I I", "lost I I", "mates I I", "step  I", "chain III I", "most I I",
        "often II I", "spoilt I I", "reform II I", "swap  I", "loudest  I", "run I I", "rarest  I", "image  V",
        "restore  Z",
    };
    private static final String[] RULED_OUT = {
        "ArrayIndexOutOfBoundsException", "NullPointerException", "ClassCastException", "NegativeArraySizeException",
        "ArrayStoreException", "catch", "finally", "synchronized", "assert ", "->", "::", "Exact(", "System.", "Thread",
        "Random", "hashCode", "toString", "package ",
    };

    public static void main(String[] args) throws Exception {
        face();
        members();
        text();
        room();
        Due.end();
    }

    private static void face() {
        Set<String> want = new TreeSet<>(Set.of(FACE));
        Set<String> got = new TreeSet<>();
        for (Method m : NightMarch.class.getDeclaredMethods()) {
            if (Modifier.isPublic(m.getModifiers())) {
                StringBuilder told = new StringBuilder(m.getName()).append(' ');
                for (Class<?> type : m.getParameterTypes()) {
                    told.append(type.descriptorString());
                }
                got.add(told.append(' ').append(m.getReturnType().descriptorString()).toString());
            }
        }
        Due.isTrue("the face is the document's: " + got, want.equals(got));
        Due.isTrue("the class is public and final",
            Modifier.isPublic(NightMarch.class.getModifiers()) && Modifier.isFinal(NightMarch.class.getModifiers()));
        Due.same("NONE", -1, NightMarch.NONE);
    }

    private static void members() {
        Set<String> names = new HashSet<>();
        for (String call : FACE) {
            names.add(call.substring(0, call.indexOf(' ')));
        }
        for (Method m : NightMarch.class.getDeclaredMethods()) {
            boolean isFace = Modifier.isPublic(m.getModifiers());
            Due.isTrue(m + " is public or private", isFace || Modifier.isPrivate(m.getModifiers()));
            Due.isTrue(m + " has a name of its own", isFace || !names.contains(m.getName()));
        }
        for (Field f : NightMarch.class.getDeclaredFields()) {
            Due.isTrue(f + " is private", Modifier.isPrivate(f.getModifiers()) || f.getName().equals("NONE"));
            Due.isTrue(f + " is no static state", !Modifier.isStatic(f.getModifiers()) || Modifier.isFinal(f.getModifiers()));
        }
        for (Constructor<?> c : NightMarch.class.getDeclaredConstructors()) {
            Due.isTrue(c + " takes nothing", c.getParameterCount() == 0 && Modifier.isPublic(c.getModifiers()));
        }
        Class<?>[] inside = NightMarch.class.getDeclaredClasses();
        Due.isTrue("at most eleven classes inside", inside.length <= 11);
        for (Class<?> c : inside) {
            Due.isTrue(c + " is private and static", Modifier.isPrivate(c.getModifiers()) && Modifier.isStatic(c.getModifiers()));
            for (Method m : c.getDeclaredMethods()) {
                Due.isTrue(m + " has a name of its own", !names.contains(m.getName()));
            }
        }
    }

    private static void text() throws Exception {
        String text = Files.readString(Path.of("src/main/java/NightMarch.java"));
        String document = Files.readString(Path.of("../shared/DOC.md"));
        String face = document.substring(document.indexOf("public final class"), document.indexOf("## Terms"));
        for (String line : face.split("\n")) {
            if (line.startsWith("    public") && line.contains("(")) {
                Due.isTrue("the text has" + line, text.contains("\n" + line.replace(";", " {") + "\n"));
            }
        }
        for (String word : RULED_OUT) {
            Due.isTrue("the text has no " + word, !text.contains(word));
        }
    }

    /** 512 of the dearest calls make next to no objects. */
    private static void room() {
        com.sun.management.ThreadMXBean bean =
            (com.sun.management.ThreadMXBean) java.lang.management.ManagementFactory.getThreadMXBean();
        NightMarch x = Due.of("man 1 1;man 2 2;man 4 3;man 8 4;man 16 5;man 32 6;row 0;row 1;row 2;row 3;row 4;row 5;"
            + "hears mud<sum+others/2-last;");
        long thread = Thread.currentThread().getId();
        x.review(-1);
        long before = bean.getThreadAllocatedBytes(thread);
        for (int i = 0; i < 60; i++) {
            x.review(-1);
            x.limped(0);
            x.next(0);
            x.reform(0, 0);
            x.reviews(i, 40, 0);
            x.game(0, 1, 0);
            x.nights(1);
            x.image();
        }
        long made = bean.getThreadAllocatedBytes(thread) - before;
        Due.isTrue("480 calls made " + made + " bytes", made < 20000);
    }
}
