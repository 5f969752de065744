import java.lang.reflect.Constructor;
import java.lang.reflect.Field;
import java.lang.reflect.Method;
import java.lang.reflect.Modifier;
import java.nio.file.Files;
import java.nio.file.Path;
import java.util.ArrayList;
import java.util.Arrays;
import java.util.List;
import java.util.TreeSet;

/** The face that the document tells, and no other member that can be seen. Promise 1 begins it. */
public final class FaceTest {
    private static final String[] METHODS = {
        "int append(int) IllegalArgumentException IllegalStateException",
        "int clearText()",
        "int errorPosition()",
        "int about(int) IllegalArgumentException",
        "int road(int,int) IndexOutOfBoundsException",
        "int neighbor(int,int) IndexOutOfBoundsException IllegalArgumentException",
        "int report(int,int,boolean) IndexOutOfBoundsException IllegalArgumentException",
        "int found() IllegalStateException",
        "int lay(int,int,int) IndexOutOfBoundsException IllegalArgumentException IllegalStateException",
        "int tear(int,int) IndexOutOfBoundsException IllegalStateException",
        "int see(int,int,int,boolean) IndexOutOfBoundsException IllegalArgumentException",
        "int seeAll() IllegalStateException",
        "int forget(int,int) IndexOutOfBoundsException IllegalArgumentException",
        "int undo() IllegalStateException",
        "int inventions(int) IllegalArgumentException",
        "int invented(int,int) IllegalArgumentException",
        "int choices(int) IllegalArgumentException",
        "int since(int,int) IndexOutOfBoundsException IllegalArgumentException",
        "int reached(int,int) IllegalArgumentException",
        "int passed(int,int,int) IndexOutOfBoundsException IllegalArgumentException",
        "int ifLaid(int,int,int) IndexOutOfBoundsException IllegalArgumentException IllegalStateException",
        "int bestRoad(int) IllegalArgumentException",
        "int dearest()",
        "int runScript(int,long) IllegalArgumentException",
        "int simulate(long,int) IllegalArgumentException",
        "int save(int) IndexOutOfBoundsException",
        "int restore(int) IndexOutOfBoundsException IllegalStateException",
    };

    public static void main(String[] args) throws Exception {
        Class<?> face = PassedTraits.class;
        Due.isTrue("the class is public and final",
                Modifier.isPublic(face.getModifiers()) && Modifier.isFinal(face.getModifiers()));
        Due.isTrue("the methods are " + visibleMethods(face),
                visibleMethods(face).equals(new TreeSet<>(Arrays.asList(METHODS))));
        for (Constructor<?> made : face.getDeclaredConstructors()) {
            Due.isTrue("constructor " + made, Modifier.isPublic(made.getModifiers()) && made.getParameterCount() == 0);
        }
        for (Field field : face.getDeclaredFields()) {
            boolean constant = field.getName().equals("NONE") && Modifier.isPublic(field.getModifiers());
            Due.isTrue("field " + field, constant || Modifier.isPrivate(field.getModifiers()));
        }
        Due.equal("NONE", -1, PassedTraits.NONE);
        privateNames(face);
        sourceKeepsToTheLanguage();
        Due.end();
    }

    private static TreeSet<String> visibleMethods(Class<?> face) {
        TreeSet<String> found = new TreeSet<>();
        for (Method method : face.getDeclaredMethods()) {
            if (!Modifier.isPrivate(method.getModifiers())) {
                List<String> kinds = new ArrayList<>();
                for (Class<?> kind : method.getParameterTypes()) {
                    kinds.add(kind.getSimpleName());
                }
                StringBuilder told = new StringBuilder(method.getReturnType().getSimpleName());
                told.append(' ').append(method.getName()).append('(').append(String.join(",", kinds)).append(')');
                for (Class<?> thrown : method.getExceptionTypes()) {
                    told.append(' ').append(thrown.getSimpleName());
                }
                found.add(told.toString());
            }
        }
        return found;
    }

    /** No private method, here or in a class inside, bears the name of a public one. */
    private static void privateNames(Class<?> face) {
        List<Class<?>> all = new ArrayList<>(Arrays.asList(face.getDeclaredClasses()));
        Due.isTrue("at most twelve classes", all.size() + 1 <= 12);
        all.add(face);
        for (Class<?> one : all) {
            int fields = 0;
            for (Field field : one.getDeclaredFields()) {
                boolean still = Modifier.isStatic(field.getModifiers());
                fields += still ? 0 : 1;
                Due.isTrue("static field " + field, !still || Modifier.isFinal(field.getModifiers()));
            }
            Due.isTrue("fields of " + one, fields <= 20);
            for (Method method : one.getDeclaredMethods()) {
                for (String known : METHODS) {
                    boolean same = known.contains(" " + method.getName() + "(");
                    Due.isTrue("name of " + method, !same || one == face && Modifier.isPublic(method.getModifiers()));
                }
                Due.isTrue("parameters of " + method, method.getParameterCount() <= 7);
            }
        }
    }

    /** A plain look at the words of the source: what LANGUAGE.md leaves out must not stand there. */
    private static void sourceKeepsToTheLanguage() throws Exception {
        Path source = Path.of("src/main/java/PassedTraits.java");
        String[] out = {"->", "::", "catch", "finally", "synchronized", "assert ", "package ", "System.out", "Random",
            "Exact(", "instanceof", "record ", "toString", "hashCode", "equals(", "nanoTime", "currentTimeMillis",
            "protected ", "@", "float ", "double ", "Object", "Thread", "volatile", "transient", "native "};
        int number = 0;
        for (String line : Files.readAllLines(source)) {
            number++;
            for (String word : out) {
                Due.isTrue("line " + number + " holds " + word, !line.contains(word));
            }
            Due.isTrue("line " + number + ": import", !line.startsWith("import ") || line.equals("import java.util.Arrays;"));
            Due.isTrue("line " + number + ": joined texts", !line.contains("\" +") && !line.contains("+ \""));
            for (int i = 0; i < line.length(); i++) {
                Due.isTrue("line " + number + ": a sign above 126", line.charAt(i) <= 126);
            }
        }
    }
}
