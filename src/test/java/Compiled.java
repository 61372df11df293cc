import java.io.ByteArrayOutputStream;
import java.io.IOException;
import java.io.InputStream;
import java.io.OutputStream;
import java.io.Writer;
import java.lang.reflect.Method;
import java.net.URI;
import java.util.HashMap;
import java.util.List;
import java.util.Map;
import javax.tools.FileObject;
import javax.tools.ForwardingJavaFileManager;
import javax.tools.JavaCompiler;
import javax.tools.JavaFileManager;
import javax.tools.JavaFileObject;
import javax.tools.SimpleJavaFileObject;
import javax.tools.StandardJavaFileManager;
import javax.tools.ToolProvider;

/** Classes made of a text with the class in it, beside which the tests' own classes can be used. */
final class Compiled {
    private static final JavaCompiler COMPILER = ToolProvider.getSystemJavaCompiler();
    private static final ThreadLocal<StandardJavaFileManager> FILES =
            ThreadLocal.withInitial(() -> COMPILER.getStandardFileManager(null, null, null));

    private final Map<String, ByteArrayOutputStream> classes = new HashMap<>();
    private final boolean isRight;

    Compiled(String text) {
        JavaFileManager memory = new ForwardingJavaFileManager<>(FILES.get()) {
            @Override
            public JavaFileObject getJavaFileForOutput(Location place, String name, JavaFileObject.Kind kind, FileObject near) {
                return output(name, kind);
            }
        };
        isRight = COMPILER.getTask(Writer.nullWriter(), memory, null,
                List.of("-proc:none", "-nowarn", "-classpath", ""), null, List.of(input(text))).call();
    }

    boolean isRight() {
        return isRight;
    }

    private static JavaFileObject input(String text) {
        return new SimpleJavaFileObject(URI.create("string:///TokenNet.java"), JavaFileObject.Kind.SOURCE) {
            @Override
            public CharSequence getCharContent(boolean ignoreErrors) {
                return text;
            }
        };
    }

    private JavaFileObject output(String name, JavaFileObject.Kind kind) {
        return new SimpleJavaFileObject(URI.create("memory:///" + name), kind) {
            @Override
            public OutputStream openOutputStream() {
                ByteArrayOutputStream bytes = new ByteArrayOutputStream();
                classes.put(name, bytes);
                return bytes;
            }
        };
    }

    /** What a static method of one of these classes, or of a test's class loaded beside them, answers to a text. */
    int answer(String className, String methodName, String text) {
        ClassLoader loader = new ClassLoader(ClassLoader.getPlatformClassLoader()) {
            @Override
            protected Class<?> findClass(String name) throws ClassNotFoundException {
                byte[] bytes = classes.containsKey(name) ? classes.get(name).toByteArray() : testClass(name);
                return defineClass(name, bytes, 0, bytes.length);
            }
        };
        try {
            Method method = loader.loadClass(className).getDeclaredMethod(methodName, String.class);
            method.setAccessible(true);
            return (int) method.invoke(null, text);
        } catch (ReflectiveOperationException failed) {
            throw new IllegalStateException(text, failed);
        }
    }

    private static byte[] testClass(String name) throws ClassNotFoundException {
        try (InputStream in = ClassLoader.getSystemResourceAsStream(name + ".class")) {
            if (in == null) {
                throw new ClassNotFoundException(name);
            }
            return in.readAllBytes();
        } catch (IOException failed) {
            throw new ClassNotFoundException(name, failed);
        }
    }
}
