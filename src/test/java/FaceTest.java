import java.io.IOException;
import java.lang.reflect.Field;
import java.lang.reflect.Method;
import java.lang.reflect.Modifier;
import java.nio.file.Files;
import java.nio.file.Path;
import java.util.ArrayList;
import java.util.Arrays;
import java.util.List;
import java.util.stream.Collectors;

/** The public face as ../shared/DOC.md writes it, line by line: constants, the constructor, methods. */
public final class FaceTest {
    public static void main(String[] args) throws IOException, ReflectiveOperationException {
        List<String> lines = faceLines(Files.readString(Path.of("../shared/DOC.md")));
        Checks.due("final and public", lines.get(0).equals("public final class PictureBlock {"), true);
        int methods = 0;
        int constants = 0;
        for (String line : lines.subList(1, lines.size())) {
            if (line.startsWith("public static final int ")) {
                constants++;
                constant(line);
            } else if (line.equals("public PictureBlock();")) {
                Checks.due(line, PictureBlock.class.getConstructor().getParameterCount(), 0);
            } else {
                methods++;
                method(line);
            }
        }
        Checks.due("methods of the face", publicMethods(), methods);
        Checks.due("constants of the face", PictureBlock.class.getFields().length, constants);
        Checks.finish("FaceTest");
    }

    private static List<String> faceLines(String document) {
        String face = document.substring(document.indexOf("```java") + 7);
        face = face.substring(0, face.indexOf("```"));
        List<String> lines = new ArrayList<>();
        for (String line : face.split("\n")) {
            if (line.trim().length() > 1) lines.add(line.trim());
        }
        return lines;
    }

    private static void constant(String line) throws ReflectiveOperationException {
        String[] told = line.substring("public static final int ".length()).replace(";", "").split(" = ");
        Field field = PictureBlock.class.getField(told[0]);
        Checks.due(line, field.getInt(null), Integer.parseInt(told[1]));
        Checks.due(line + " type", field.getType() == int.class, true);
    }

    private static void method(String line) {
        String name = line.substring(0, line.indexOf('(')).replaceAll(".* ", "");
        String found = "none";
        for (Method m : PictureBlock.class.getMethods()) {
            if (m.getName().equals(name)) found = headOf(m);
        }
        String told = line.replaceAll("(int|long|boolean) \\w+(?=[,)])", "$1");
        Checks.due(line + " against " + found, told.equals(found), true);
    }

    private static String headOf(Method m) {
        String types = Arrays.stream(m.getParameterTypes()).map(Class::getName).collect(Collectors.joining(", "));
        return Modifier.toString(m.getModifiers()) + " " + m.getReturnType().getName() + " " + m.getName() + "(" + types + ");";
    }

    private static int publicMethods() {
        int many = 0;
        for (Method m : PictureBlock.class.getDeclaredMethods()) {
            if (Modifier.isPublic(m.getModifiers())) many++;
        }
        return many;
    }
}
