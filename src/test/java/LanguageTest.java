import java.lang.management.ManagementFactory;
import java.lang.reflect.Constructor;
import java.lang.reflect.Field;
import java.lang.reflect.Method;
import java.lang.reflect.Modifier;
import java.nio.file.Files;
import java.nio.file.Path;
import java.util.List;
import java.util.Set;
import java.util.TreeSet;
import java.util.regex.Matcher;
import java.util.regex.Pattern;

/** Rules of LANGUAGE.md that a program can look at: the face, words that may not stand, and the room that calls take. */
public final class LanguageTest {
    private static final Path SOURCE = Path.of("src/main/java/CellarPump.java");
    private static final Path DOCUMENT = Path.of("../shared/DOC.md");

    public static void main(String[] args) throws Exception {
        face();
        membersAreHidden();
        classes();
        words();
        lengths();
        room();
        Check.finish();
    }

    private static void face() throws Exception {
        Set<String> due = new TreeSet<>();
        Matcher line = Pattern.compile("    public int (\\w+)\\(([^)]*)\\);").matcher(Files.readString(DOCUMENT));
        while (line.find()) {
            due.add(line.group(1) + "(" + line.group(2).replaceAll(" \\w+(?=,|$)", "").replace(", ", ",") + ")");
        }
        Set<String> is = new TreeSet<>();
        for (Method m : CellarPump.class.getDeclaredMethods()) {
            if (!Modifier.isPrivate(m.getModifiers())) {
                Check.holds(m + " answers an int", m.getReturnType() == int.class && Modifier.isPublic(m.getModifiers()));
                StringBuilder types = new StringBuilder();
                for (Class<?> type : m.getParameterTypes()) {
                    types.append(types.length() == 0 ? "" : ",").append(type.getName());
                }
                is.add(m.getName() + "(" + types + ")");
            }
        }
        Check.due("calls of the face", due.size(), 47);
        Check.holds("the face is the document's:\n" + due + "\n" + is, due.equals(is));
        Constructor<?>[] made = CellarPump.class.getDeclaredConstructors();
        Check.holds("one constructor, public", made.length == 1 && Modifier.isPublic(made[0].getModifiers()));
        Check.holds("the class is final", Modifier.isFinal(CellarPump.class.getModifiers()));
    }

    private static void membersAreHidden() {
        for (Field f : CellarPump.class.getDeclaredFields()) {
            Check.holds(f + " is private", Modifier.isPrivate(f.getModifiers()));
        }
        Set<String> face = new TreeSet<>();
        for (Method m : CellarPump.class.getMethods()) {
            face.add(m.getName());
        }
        for (Method m : CellarPump.class.getDeclaredMethods()) {
            boolean isHidden = Modifier.isPrivate(m.getModifiers());
            Check.holds(m + " bears another name than the face's", !isHidden || !face.contains(m.getName()));
        }
    }

    private static void classes() {
        Class<?>[] inside = CellarPump.class.getDeclaredClasses();
        Check.holds("some twelve classes", inside.length <= 12);
        for (Class<?> c : inside) {
            Check.holds(c + " is static", Modifier.isStatic(c.getModifiers()));
            Check.holds(c + " is not public", !Modifier.isPublic(c.getModifiers()));
            int fields = 0;
            for (Field f : c.getDeclaredFields()) {
                boolean isStatic = Modifier.isStatic(f.getModifiers());
                Check.holds(f + " is final, if static", !isStatic || Modifier.isFinal(f.getModifiers()));
                fields += isStatic ? 0 : 1;
            }
            Check.holds(c + " has some twenty fields", fields <= 20);
            for (Method m : c.getDeclaredMethods()) {
                Check.holds(m + " takes seven at most", m.getParameterCount() <= 7);
            }
        }
    }

    private static void words() throws Exception {
        String text = Files.readString(SOURCE).replaceAll("(?s)/\\*.*?\\*/", "").replaceAll("//[^\n]*", "")
            .replaceAll("\\b(case [^:;{}]*|default )->", "");
        String[] refused = {"\\bthrow\\b", "\\btry\\b", "\\bcatch\\b", "\\bsynchronized\\b", "\\bassert\\b", "->",
            "::", "\\w+Exact\\b", "\\bpackage\\b", "\\bhashCode\\b", "\\bprotected\\b", "\\bThread\\b",
            "\\bRandom\\b", "\\brandom\\b", "System\\.(?!arraycopy)", "Arrays\\.(?!fill|copyOf|copyOfRange)",
            "import (?!java\\.util\\.(Arrays|ArrayList|List|Iterator);)", "\\bstatic \\{", "while \\(true\\)",
            "for \\(;;\\)", "[^\\x00-\\x7F]"};
        for (String word : refused) {
            Matcher found = Pattern.compile(word).matcher(text);
            Check.holds("'" + word + "' stands in the source", !found.find());
        }
    }

    /** A method's lines, from its head to the brace that ends it. */
    private static void lengths() throws Exception {
        List<String> lines = Files.readAllLines(SOURCE);
        Pattern head = Pattern.compile("( +)(?:(?:public|private|static|final|abstract) )*[\\w\\[\\]<>]+ ?\\w*\\(.*");
        for (int from = 0; from < lines.size(); from++) {
            Matcher m = head.matcher(lines.get(from));
            boolean isMember = m.matches() && (m.group(1).length() == 4 || m.group(1).length() == 8);
            if (isMember && lines.get(from).endsWith("{") && !lines.get(from).matches(" +(if|for|while|switch|do)\\b.*")) {
                int to = from;
                while (to < lines.size() && !lines.get(to).equals(m.group(1) + "}")) {
                    to++;
                }
                Check.holds("some sixty lines: " + lines.get(from).trim(), to - from < 60);
            }
        }
    }

    /** What a run of the dearest calls makes, in bytes: less than 600,000 objects of 16 bytes, the room of a run. */
    private static void room() {
        com.sun.management.ThreadMXBean threads =
            (com.sun.management.ThreadMXBean) ManagementFactory.getThreadMXBean();
        all(filled());
        long before = threads.getCurrentThreadAllocatedBytes();
        CellarPump x = filled();
        for (int i = 0; i < 20; i++) {
            all(x);
        }
        long made = threads.getCurrentThreadAllocatedBytes() - before;
        Check.holds("a run made " + made + " bytes", made < 600000L * 16);
    }

    private static CellarPump filled() {
        CellarPump x = new CellarPump();
        for (int i = 0; i < 10; i++) {
            x.water(i % 7, 1 + i, i);
            x.thing(10 + i, 3 + i, 10 * i);
        }
        Check.sky(x, "rain 9;wait 60;wait 60;flap sticks;wait 60;current off;wait 60");
        x.sheet(0, 32, 40);
        return x;
    }

    private static void all(CellarPump x) {
        x.image();
        x.minutes(20);
        x.ahead(400, 3);
        x.under(0, 1);
        x.reaches(9999);
        x.bestOn(200, 9999);
        x.rateFor(200, 9999);
        x.batteryFor(200, 9999);
        x.worth(0, 9999, 0);
        x.rescue(2);
        x.shelf(300, 0);
        x.odds(20, 200, 500);
        x.copy(0, 0, 0, 1, 30);
        x.load(0);
        x.judge(0);
        x.feed(0x72616969, 3);
        x.sky();
        x.play(0);
        x.quickest();
        x.came();
        x.undo();
        x.status(9);
    }
}
