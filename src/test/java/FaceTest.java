import java.lang.reflect.Constructor;
import java.lang.reflect.Field;
import java.lang.reflect.Member;
import java.lang.reflect.Method;
import java.lang.reflect.Modifier;
import java.util.ArrayList;
import java.util.Arrays;
import java.util.Collections;
import java.util.List;

/** The public face, to the letter of the document. */
public final class FaceTest {
    private static final Check CHECK = new Check();

    private static final String[] DUE = {
        "NONE", "AbnfChart()", "write(long,int)", "erase()", "read()", "place()", "rule(long)",
        "give(long,int)", "drop()", "matches(int,int,int)", "longest(int,int)", "pieces(int)", "count(int)",
    };

    /** Which exceptions each method tells of, beside those that tell of none. */
    private static final String[] THROWS = {
        "write IllegalArgumentException IllegalStateException",
        "read IllegalArgumentException IllegalStateException",
        "rule NoSuchElementException",
        "give IllegalArgumentException IllegalStateException",
        "matches NoSuchElementException IndexOutOfBoundsException",
        "longest NoSuchElementException IndexOutOfBoundsException",
        "pieces NoSuchElementException",
        "count IndexOutOfBoundsException",
    };

    public static void main(String[] args) {
        List<String> due = sorted(DUE);
        List<String> open = openMembers();
        CHECK.due("the members " + open + " are those of the document", 1, () -> open.equals(due) ? 1 : 0);
        CHECK.due("public and final", 1, () -> isPublicFinal(AbnfChart.class.getModifiers()) ? 1 : 0);
        CHECK.due("matches answers a boolean", 1, () -> answersDue() ? 1 : 0);
        CHECK.same("what the methods throw", sorted(THROWS).toString(), sorted(thrown()).toString());
        CHECK.due("NONE is a constant int", 1, () -> isConstant("NONE") ? 1 : 0);
        CHECK.due("classes inside are static and not public", 1, () -> insideDue() ? 1 : 0);
        CHECK.end();
    }

    private static List<String> openMembers() {
        List<String> open = new ArrayList<>();
        for (Field field : AbnfChart.class.getDeclaredFields()) {
            addIfOpen(open, field, field.getName());
        }
        for (Constructor<?> made : AbnfChart.class.getDeclaredConstructors()) {
            addIfOpen(open, made, "AbnfChart" + told(made.getParameterTypes()));
        }
        for (Method method : AbnfChart.class.getDeclaredMethods()) {
            addIfOpen(open, method, method.getName() + told(method.getParameterTypes()));
        }
        Collections.sort(open);
        return open;
    }

    private static void addIfOpen(List<String> open, Member member, String name) {
        if (!Modifier.isPrivate(member.getModifiers()) && !member.isSynthetic()) {
            open.add(Modifier.isPublic(member.getModifiers()) ? name : "not public: " + name);
        }
    }

    private static String told(Class<?>[] types) {
        StringBuilder all = new StringBuilder();
        for (Class<?> type : types) {
            all.append(all.length() == 0 ? "" : ",").append(type.getName());
        }
        return "(" + all + ")";
    }

    private static boolean isPublicFinal(int modifiers) {
        return Modifier.isPublic(modifiers) && Modifier.isFinal(modifiers);
    }

    private static boolean answersDue() {
        for (Method method : AbnfChart.class.getDeclaredMethods()) {
            Class<?> due = method.getName().equals("matches") ? boolean.class : int.class;
            if (Modifier.isPublic(method.getModifiers()) && method.getReturnType() != due) {
                return false;
            }
        }
        return true;
    }

    private static List<String> sorted(String[] rows) {
        List<String> all = new ArrayList<>(Arrays.asList(rows));
        Collections.sort(all);
        return all;
    }

    private static String[] thrown() {
        List<String> rows = new ArrayList<>();
        for (Method method : AbnfChart.class.getDeclaredMethods()) {
            if (Modifier.isPublic(method.getModifiers()) && method.getExceptionTypes().length > 0) {
                StringBuilder row = new StringBuilder(method.getName());
                for (Class<?> type : method.getExceptionTypes()) {
                    row.append(' ').append(type.getSimpleName());
                }
                rows.add(row.toString());
            }
        }
        return rows.toArray(new String[0]);
    }

    private static boolean isConstant(String name) {
        for (Field field : AbnfChart.class.getDeclaredFields()) {
            int modifiers = field.getModifiers();
            if (field.getName().equals(name)) {
                return field.getType() == int.class && isPublicFinal(modifiers) && Modifier.isStatic(modifiers);
            }
        }
        return false;
    }

    private static boolean insideDue() {
        for (Class<?> inside : AbnfChart.class.getDeclaredClasses()) {
            int modifiers = inside.getModifiers();
            if (!Modifier.isStatic(modifiers) || Modifier.isPublic(modifiers) || Modifier.isProtected(modifiers)) {
                return false;
            }
        }
        return true;
    }
}
