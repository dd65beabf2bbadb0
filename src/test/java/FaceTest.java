import java.lang.reflect.Constructor;
import java.lang.reflect.Field;
import java.lang.reflect.Method;
import java.lang.reflect.Modifier;
import java.util.TreeSet;

/** The class has the document's face, and nothing else that can be seen from outside. */
final class FaceTest {
    private static final String[] DUE = {
        "constructor ()",
        "field int NONE",
        "method double average(int) throws IllegalArgumentException",
        "method double free()",
        "method double next(int) throws IllegalArgumentException",
        "method int clock()",
        "method int coin(double) throws IllegalArgumentException IllegalStateException",
        "method int come(int int boolean) throws IllegalArgumentException",
        "method int count(int int) throws IllegalArgumentException",
        "method int round(int)",
        "method int sent(int int) throws IllegalArgumentException",
        "method int tick(int) throws IllegalArgumentException",
        "method void delay(int double double) throws IllegalArgumentException",
        "method void kind(int int int) throws IllegalArgumentException",
        "method void link(double int) throws IllegalArgumentException",
        "method void mean(int double double double double) throws IllegalArgumentException",
    };

    public static void main(String[] args) {
        Checks checks = new Checks();
        TreeSet<String> seen = new TreeSet<>();
        TreeSet<String> publicNames = new TreeSet<>();
        Class<?> face = LinkQueues.class;
        for (Constructor<?> made : face.getDeclaredConstructors()) {
            addSeen(seen, made.getModifiers(), "constructor (" + names(made.getParameterTypes()) + ")");
        }
        for (Field field : face.getDeclaredFields()) {
            addSeen(seen, field.getModifiers(), "field " + field.getType().getSimpleName() + " " + field.getName());
        }
        for (Method method : face.getDeclaredMethods()) {
            String thrown = names(method.getExceptionTypes());
            addSeen(seen, method.getModifiers(), "method " + method.getReturnType().getSimpleName() + " " + method.getName()
                + "(" + names(method.getParameterTypes()) + ")" + (thrown.isEmpty() ? "" : " throws " + thrown));
            if (Modifier.isPublic(method.getModifiers())) {
                publicNames.add(method.getName());
            }
        }
        for (Class<?> inside : face.getDeclaredClasses()) {
            checks.isTrue(inside + " is private and static", Modifier.isPrivate(inside.getModifiers()) && Modifier.isStatic(inside.getModifiers()));
            for (Method method : inside.getDeclaredMethods()) {
                checks.isTrue(method + " does not bear a public name", !publicNames.contains(method.getName()));
            }
        }
        checks.due("the face", String.join("\n", seen), String.join("\n", DUE));
        checks.isTrue("the class is public and final", Modifier.isPublic(face.getModifiers()) && Modifier.isFinal(face.getModifiers()));
        checks.due("its package", face.getPackageName(), "");
        checks.end();
    }

    private static void addSeen(TreeSet<String> seen, int modifiers, String member) {
        if (!Modifier.isPrivate(modifiers)) {
            seen.add(member);
        }
    }

    private static String names(Class<?>[] types) {
        StringBuilder text = new StringBuilder();
        for (Class<?> type : types) {
            text.append(text.length() == 0 ? "" : " ").append(type.getSimpleName());
        }
        return text.toString();
    }
}
