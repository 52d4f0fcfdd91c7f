import java.io.ByteArrayOutputStream;
import java.io.IOException;
import java.io.InputStream;
import java.io.OutputStream;
import java.io.StringWriter;
import java.net.URI;
import java.util.HashMap;
import java.util.List;
import java.util.Map;
import javax.tools.FileObject;
import javax.tools.ForwardingJavaFileManager;
import javax.tools.JavaCompiler;
import javax.tools.JavaFileManager;
import javax.tools.JavaFileObject;
import javax.tools.SimpleJavaFileObject;
import javax.tools.ToolProvider;

/** Loads the project's classes anew, with GhostInn from a source that was broken. */
final class BrokenLoader extends ClassLoader {
    private static final JavaCompiler COMPILER = ToolProvider.getSystemJavaCompiler();
    private static final JavaFileManager FILES = COMPILER.getStandardFileManager(null, null, null);

    private final Map<String, ByteArrayOutputStream> compiled = new HashMap<>();

    BrokenLoader(String source) {
        super(BrokenLoader.class.getClassLoader());
        StringWriter told = new StringWriter();
        List<String> options = List.of("-proc:none", "-nowarn");
        boolean right = COMPILER.getTask(told, new InMemory(), null, options, null, List.of(new Source(source))).call();
        if (!right) {
            throw new IllegalStateException("it does not compile: " + told);
        }
    }

    @Override
    protected Class<?> loadClass(String name, boolean resolve) throws ClassNotFoundException {
        synchronized (getClassLoadingLock(name)) {
            if (name.indexOf('.') >= 0) {
                return super.loadClass(name, resolve);
            }
            Class<?> loaded = findLoadedClass(name);
            return loaded == null ? define(name) : loaded;
        }
    }

    private Class<?> define(String name) throws ClassNotFoundException {
        try (InputStream file = getParent().getResourceAsStream(name + ".class")) {
            if (!compiled.containsKey(name) && file == null) {
                throw new ClassNotFoundException(name);
            }
            byte[] bytes = compiled.containsKey(name) ? compiled.get(name).toByteArray() : file.readAllBytes();
            return defineClass(name, bytes, 0, bytes.length);
        } catch (IOException e) {
            throw new ClassNotFoundException(name, e);
        }
    }

    private static final class Source extends SimpleJavaFileObject {
        private final String text;

        Source(String text) {
            super(URI.create("string:///GhostInn.java"), Kind.SOURCE);
            this.text = text;
        }

        @Override
        public CharSequence getCharContent(boolean ignoreEncodingErrors) {
            return text;
        }
    }

    private final class InMemory extends ForwardingJavaFileManager<JavaFileManager> {
        InMemory() {
            super(FILES);
        }

        @Override
        public JavaFileObject getJavaFileForOutput(Location location, String name, JavaFileObject.Kind kind,
                FileObject sibling) {
            ByteArrayOutputStream bytes = new ByteArrayOutputStream();
            compiled.put(name, bytes);
            return new SimpleJavaFileObject(URI.create("memory:///" + name.replace('$', '-') + ".class"), kind) {
                @Override
                public OutputStream openOutputStream() {
                    return bytes;
                }
            };
        }
    }
}
