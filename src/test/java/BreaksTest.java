import java.io.ByteArrayOutputStream;
import java.io.IOException;
import java.io.OutputStream;
import java.lang.reflect.Field;
import java.lang.reflect.Method;
import java.net.URI;
import java.nio.file.Files;
import java.nio.file.Path;
import java.util.ArrayList;
import java.util.HashMap;
import java.util.LinkedHashMap;
import java.util.List;
import java.util.Map;
import java.util.concurrent.Callable;
import java.util.concurrent.ExecutorService;
import java.util.concurrent.Executors;
import java.util.concurrent.Future;
import java.util.concurrent.TimeUnit;
import java.util.concurrent.TimeoutException;
import java.util.regex.Matcher;
import java.util.regex.Pattern;
import javax.tools.FileObject;
import javax.tools.ForwardingJavaFileManager;
import javax.tools.JavaCompiler;
import javax.tools.JavaFileManager;
import javax.tools.JavaFileObject;
import javax.tools.SimpleJavaFileObject;
import javax.tools.ToolProvider;

/**
 * Tests the tests of boundaries: the program is broken in each way that breaks.txt tells, one at a
 * time, and the sentence's own test must fail then.
 */
public final class BreaksTest {
    private static final int SECONDS = 60;

    private static final class Break {
        final String sentence;
        final String told;
        final String program;

        Break(String sentence, String told, String program) {
            this.sentence = sentence;
            this.told = told;
            this.program = program;
        }
    }

    private static final List<String> wrong = new ArrayList<>();

    public static void main(String[] args) throws Exception {
        Path source = Path.of(System.getProperty("source"));
        Path told = source.resolve("../../../test/breaks/breaks.txt").normalize();
        List<Break> breaks = read(Files.readString(source), Files.readAllLines(told));
        for (Bounds bounds : Bounds.all()) {
            for (Bounds.Sentence s : bounds.sentences) {
                if (breaks.stream().noneMatch(b -> b.sentence.equals(s.name()))) wrong.add("nothing breaks " + s.name());
            }
        }
        // Many sentences are broken by the same program, which is compiled once.
        Map<String, List<Break>> programs = new LinkedHashMap<>();
        for (Break b : breaks) programs.computeIfAbsent(b.program, p -> new ArrayList<>()).add(b);
        tryAll(programs);
        for (String line : wrong) System.out.println(line);
        System.out.println(wrong.isEmpty() ? breaks.size() + " breaks, by " + programs.size() + " programs, are all seen"
            : wrong.size() + " things are not as due");
        System.exit(wrong.isEmpty() ? 0 : 1);
    }

    private static List<Break> read(String program, List<String> lines) {
        List<Break> breaks = new ArrayList<>();
        String sentence = null;
        for (String line : lines) {
            if (line.isBlank() || line.startsWith("#")) continue;
            if (line.startsWith("[")) {
                sentence = line.substring(1).replaceFirst("\\]", "");
                continue;
            }
            Matcher m = Pattern.compile("(\\w+): (.*) =>(?: (.*))?").matcher(line);
            String broken = m.matches() ? broken(program, m.group(1), m.group(2), m.group(3) == null ? "" : m.group(3)) : null;
            if (broken == null) {
                wrong.add("the program doesn't have once: " + line);
            } else {
                breaks.add(new Break(sentence, line, broken));
            }
        }
        return breaks;
    }

    /** The program with something else in its place, or null if that doesn't stand there once. */
    private static String broken(String program, String method, String was, String becomes) {
        int from = 0;
        int to = program.length();
        if (!method.equals("program")) {
            Matcher m = Pattern.compile("(?ms)^( +)[\\w\\[\\] ]+ " + method + "\\([^;{}]*\\) \\{$.*?^\\1\\}$").matcher(program);
            if (!m.find()) return null;
            from = m.start();
            to = m.end();
        }
        int at = program.indexOf(was, from);
        if (at < 0 || at + was.length() > to) return null;
        int again = program.indexOf(was, at + 1);
        if (again >= 0 && again + was.length() <= to) return null;
        return program.substring(0, at) + becomes + program.substring(at + was.length());
    }

    private static void tryAll(Map<String, List<Break>> programs) throws Exception {
        Map<String, byte[]> tests = testClasses();
        ExecutorService pool = Executors.newFixedThreadPool(Math.min(8, Runtime.getRuntime().availableProcessors()), BreaksTest::daemon);
        ExecutorService runs = Executors.newCachedThreadPool(BreaksTest::daemon);
        List<Future<List<String>>> all = new ArrayList<>();
        for (Map.Entry<String, List<Break>> e : programs.entrySet()) {
            all.add(pool.submit(() -> tryOne(e.getKey(), e.getValue(), tests, runs)));
        }
        for (Future<List<String>> f : all) wrong.addAll(f.get());
    }

    private static Thread daemon(Runnable r) {
        Thread t = new Thread(r);
        t.setDaemon(true);
        return t;
    }

    private static List<String> tryOne(String program, List<Break> breaks, Map<String, byte[]> tests, ExecutorService runs)
            throws Exception {
        List<String> unseen = new ArrayList<>();
        Map<String, byte[]> classes = COMPILER.get().compile(program);
        for (Break b : breaks) {
            if (classes == null) {
                unseen.add("no Java: " + b.told);
                continue;
            }
            Map<String, byte[]> together = new HashMap<>(tests);
            together.putAll(classes);
            Callable<Boolean> fails = () -> fails(b.sentence, new Apart(together));
            Future<Boolean> run = runs.submit(fails);
            try {
                if (!run.get(SECONDS, TimeUnit.SECONDS)) unseen.add("not seen: " + b.sentence + "\n    " + b.told);
            } catch (TimeoutException e) {
                unseen.add("doesn't end: " + b.told);
            }
        }
        return unseen;
    }

    /** Whether the sentence's test fails with the classes of a loader. */
    private static boolean fails(String sentence, ClassLoader loader) throws Exception {
        Class<?> type = loader.loadClass("Bounds");
        Method all = type.getDeclaredMethod("all");
        Field sentences = type.getDeclaredField("sentences");
        Class<?> sentenceType = loader.loadClass("Bounds$Sentence");
        Method name = sentenceType.getDeclaredMethod("name");
        Method wrongOf = type.getDeclaredMethod("wrongOf", sentenceType);
        all.setAccessible(true);
        sentences.setAccessible(true);
        name.setAccessible(true);
        wrongOf.setAccessible(true);
        for (Object bounds : (List<?>) all.invoke(null)) {
            for (Object s : (List<?>) sentences.get(bounds)) {
                if (name.invoke(s).equals(sentence)) return !((List<?>) wrongOf.invoke(bounds, s)).isEmpty();
            }
        }
        return false;
    }

    private static Map<String, byte[]> testClasses() throws IOException {
        Map<String, byte[]> classes = new HashMap<>();
        Path folder = Path.of(System.getProperty("java.class.path"));
        try (var files = Files.list(folder)) {
            for (Path file : (Iterable<Path>) files::iterator) {
                String name = file.getFileName().toString();
                if (name.startsWith("Bounds") && name.endsWith(".class")) {
                    classes.put(name.substring(0, name.length() - 6), Files.readAllBytes(file));
                }
            }
        }
        return classes;
    }

    /** Classes of their own, apart from the ones that this test was started with. */
    private static final class Apart extends ClassLoader {
        private final Map<String, byte[]> classes;

        Apart(Map<String, byte[]> classes) {
            super(ClassLoader.getPlatformClassLoader());
            this.classes = classes;
        }

        @Override
        protected Class<?> findClass(String name) throws ClassNotFoundException {
            byte[] bytes = classes.get(name);
            if (bytes == null) throw new ClassNotFoundException(name);
            return defineClass(name, bytes, 0, bytes.length);
        }
    }

    /** One for each thread: opening the library's classes is dear. */
    private static final ThreadLocal<Compiler> COMPILER = ThreadLocal.withInitial(Compiler::new);

    private static final class Compiler {
        private final JavaCompiler javac = ToolProvider.getSystemJavaCompiler();
        private final JavaFileManager files = javac.getStandardFileManager(null, null, null);

        /** The classes of a program, or null if it is none. */
        Map<String, byte[]> compile(String program) {
            Map<String, ByteArrayOutputStream> made = new HashMap<>();
            JavaFileManager inMemory = new ForwardingJavaFileManager<>(files) {
                @Override
                public JavaFileObject getJavaFileForOutput(Location place, String name, JavaFileObject.Kind kind, FileObject sibling) {
                    made.put(name, new ByteArrayOutputStream());
                    return new SimpleJavaFileObject(URI.create("made:///" + name + ".class"), kind) {
                        @Override
                        public OutputStream openOutputStream() {
                            return made.get(name);
                        }
                    };
                }
            };
            JavaFileObject source = new SimpleJavaFileObject(URI.create("text:///EveningCloak.java"), JavaFileObject.Kind.SOURCE) {
                @Override
                public CharSequence getCharContent(boolean ignoreErrors) {
                    return program;
                }
            };
            List<String> options = List.of("-nowarn", "-proc:none", "-XDuseUnsharedTable=true");
            if (!javac.getTask(null, inMemory, d -> { }, options, null, List.of(source)).call()) return null;
            Map<String, byte[]> classes = new HashMap<>();
            made.forEach((name, bytes) -> classes.put(name, bytes.toByteArray()));
            return classes;
        }
    }
}
