import java.io.IOException;
import java.lang.reflect.InvocationTargetException;
import java.lang.reflect.Method;
import java.nio.file.Path;
import java.util.Arrays;
import java.util.Comparator;

/**
 * For each sentence of the document that names a boundary case a test of its own: the methods of the classes
 * in src/test/support that quote one. A sentence that nobody quotes, and a test that asks nothing, fail too.
 */
public final class BoundaryTest {
    private static final Class<?>[] TESTS = {SwingsBounds.class, LawBounds.class, AfternoonBounds.class, SquealBounds.class,
        DeedBounds.class, ActBounds.class, AnswerBounds.class, PromiseBounds.class, LaterPromiseBounds.class};

    private static int sentences = 0;
    private static int wrong = 0;

    public static void main(String[] args) throws IOException {
        Document document = new Document(Path.of(System.getProperty("project.root", "."), "..", "shared", "DOC.md"));
        for (Class<?> tests : TESTS) {
            Method[] methods = tests.getDeclaredMethods();
            Arrays.sort(methods, Comparator.comparing(Method::getName));
            for (Method method : methods) {
                Sentence sentence = method.getAnnotation(Sentence.class);
                if (sentence != null && (args.length == 0 || Arrays.asList(args).contains(method.getName()))) {
                    ask(document, sentence, method);
                }
            }
        }
        if (args.length == 0) {
            document.unquoted().forEach(left -> fail("no test quotes " + left));
        }
        System.out.println(sentences + " sentences, " + Bounds.checks() + " checks, " + wrong + " sentences not as due");
        if (wrong != 0) {
            System.exit(1);
        }
    }

    private static void ask(Document document, Sentence sentence, Method method) {
        sentences++;
        int checks = Bounds.checks();
        int before = Bounds.wrong();
        String name = sentence.in() + ", \"" + sentence.says() + "\" (" + method.getName() + ")";
        try {
            method.invoke(null);
        } catch (InvocationTargetException thrown) {
            fail(name + " threw " + thrown.getCause());
        } catch (IllegalAccessException closed) {
            fail(name + " cannot be asked");
        }
        if (Bounds.wrong() > before) {
            fail("does not hold: " + name);
        }
        if (Bounds.checks() == checks) {
            fail(name + " asks nothing");
        }
        if (!document.quote(sentence.in(), sentence.says())) {
            fail(name + " does not stand in the document");
        }
    }

    private static void fail(String why) {
        wrong++;
        System.out.println(why);
    }
}
