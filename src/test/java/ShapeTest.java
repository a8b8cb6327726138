import java.io.IOException;
import java.lang.reflect.Constructor;
import java.lang.reflect.Executable;
import java.lang.reflect.Field;
import java.lang.reflect.Method;
import java.lang.reflect.Modifier;
import java.nio.file.Files;
import java.nio.file.Path;
import java.util.List;
import java.util.Set;
import java.util.TreeSet;

/** The document's face and the rules of ../shared/LANGUAGE.md that can be seen from outside the code. */
public final class ShapeTest {
    private static final Check CHECK = new Check();
    private static final String FACE = "feed(long,long,long)int post()int days()int timer(int,int)int person(int,int)int"
            + " work(int,int)int well(int)int way(int,int)int hours(int)int draw(int,int)int pour(int,int,int)int"
            + " go(int,int)int steal(int,int)int undo()boolean judged(int)int shows(int,int)int stops(int)int"
            + " late(int,int)int siege(int,int)int say(int,int,int)boolean truth(int)int round(int,int)int"
            + " caravan(int,int,int,int)int tell(int,int)boolean laws(int)int theft(int,int,int,int)int"
            + " cups(int,int,int)int rests(int,int,int)int years(int,int,int)int mark(int,boolean)boolean count(int)int";

    public static void main(String[] args) throws IOException {
        face();
        insides();
        source(Files.readAllLines(Path.of("src/main/java/ThirstHours.java")));
        CHECK.end();
    }

    private static String signature(Method method) {
        StringBuilder text = new StringBuilder(method.getName()).append('(');
        for (Class<?> type : method.getParameterTypes()) {
            text.append(text.charAt(text.length() - 1) == '(' ? "" : ",").append(type.getName());
        }
        return text.append(')').append(method.getReturnType().getName()).toString();
    }

    private static void face() {
        Class<ThirstHours> face = ThirstHours.class;
        CHECK.due("public and final", face.getModifiers() & (Modifier.PUBLIC | Modifier.FINAL),
                Modifier.PUBLIC | Modifier.FINAL);
        Set<String> open = new TreeSet<>();
        Set<String> names = new TreeSet<>();
        for (Method method : face.getDeclaredMethods()) {
            if (!Modifier.isPrivate(method.getModifiers())) {
                open.add(signature(method));
                names.add(method.getName());
            }
        }
        CHECK.due("the face is " + open, open.equals(new TreeSet<>(List.of(FACE.split(" ")))), true);
        for (Method method : face.getDeclaredMethods()) {
            boolean hidden = Modifier.isPrivate(method.getModifiers());
            CHECK.due("a private " + method.getName(), hidden && names.contains(method.getName()), false);
        }
        for (Field field : face.getDeclaredFields()) {
            boolean hidden = Modifier.isPrivate(field.getModifiers());
            CHECK.due("field " + field.getName(), hidden || field.getName().equals("NONE"), true);
        }
        CHECK.due("constructors", face.getConstructors().length, 1);
        CHECK.due("all constructors", face.getDeclaredConstructors().length, 1);
    }

    private static void insides() {
        Class<?>[] inside = ThirstHours.class.getDeclaredClasses();
        CHECK.due("some twelve classes", inside.length + 1 <= 13, true);
        for (Class<?> type : inside) {
            CHECK.due(type.getName() + " is static", Modifier.isStatic(type.getModifiers()), true);
            CHECK.due(type.getName() + " is hidden", Modifier.isPublic(type.getModifiers()), false);
            smallEnough(type);
        }
        smallEnough(ThirstHours.class);
    }

    private static void smallEnough(Class<?> type) {
        int fields = 0;
        for (Field field : type.getDeclaredFields()) {
            boolean constant = Modifier.isStatic(field.getModifiers());
            fields += constant ? 0 : 1;
            CHECK.due(type.getName() + "." + field.getName() + " is final if static",
                    constant && !Modifier.isFinal(field.getModifiers()), false);
        }
        CHECK.due(type.getName() + " has some twenty fields, " + fields, fields <= 20, true);
        for (Method method : type.getDeclaredMethods()) {
            few(method);
        }
        for (Constructor<?> constructor : type.getDeclaredConstructors()) {
            few(constructor);
        }
    }

    private static void few(Executable method) {
        CHECK.due(method + " takes seven at most", method.getParameterCount() <= 7, true);
    }

    private static void source(List<String> lines) {
        String[] never = {"->", "::", "try", "catch", "finally", "synchronized", "assert", "while (true", "for (;;",
            "Exact(", "hashCode", "toString", "getMessage", "Thread", "System.out", "nanoTime", "Random", "protected"};
        int begun = 0;
        for (int i = 0; i < lines.size(); i++) {
            String line = lines.get(i);
            for (String word : never) {
                CHECK.due("line " + (i + 1) + " has " + word, line.contains(word), false);
            }
            for (int at = 0; at < line.length(); at++) {
                CHECK.due("line " + (i + 1) + " has plain signs", line.charAt(at) < 127, true);
            }
            String bare = line.strip();
            int deep = line.length() - line.stripLeading().length();
            if (deep <= 8 && bare.endsWith(") {")) {
                begun = i;
            }
            if (deep <= 8 && bare.equals("}")) {
                CHECK.due("the method that ends at line " + (i + 1) + " is short", i - begun <= 60 || begun == 0, true);
                begun = 0;
            }
        }
        CHECK.due("imports", lines.stream().filter(line -> line.startsWith("import ")).count(), 1);
        CHECK.due("package", lines.stream().filter(line -> line.startsWith("package ")).count(), 0);
    }
}
