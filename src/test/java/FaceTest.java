import java.lang.reflect.Constructor;
import java.lang.reflect.Field;
import java.lang.reflect.Member;
import java.lang.reflect.Method;
import java.lang.reflect.Modifier;
import java.util.ArrayList;
import java.util.Arrays;
import java.util.Collections;
import java.util.List;

/** The public face, to the letter of the document. */
public final class FaceTest {
    private static final Check CHECK = new Check();

    private static final String[] DUE = {
        "NONE", "AbnfChart()", "write(long,int)", "erase()", "read()", "place()", "rule(long)",
        "give(long,int)", "drop()", "matches(int,int,int)", "longest(int,int)", "pieces(int)", "count(int)",
    };

    public static void main(String[] args) {
        List<String> due = new ArrayList<>(Arrays.asList(DUE));
        Collections.sort(due);
        List<String> open = openMembers();
        CHECK.due("the members " + open + " are those of the document", 1, () -> open.equals(due) ? 1 : 0);
        CHECK.due("public and final", 1, () -> isPublicFinal(AbnfChart.class.getModifiers()) ? 1 : 0);
        CHECK.due("matches answers a boolean", 1, () -> answersDue() ? 1 : 0);
        CHECK.end();
    }

    private static List<String> openMembers() {
        List<String> open = new ArrayList<>();
        for (Field field : AbnfChart.class.getDeclaredFields()) {
            addIfOpen(open, field, field.getName());
        }
        for (Constructor<?> made : AbnfChart.class.getDeclaredConstructors()) {
            addIfOpen(open, made, "AbnfChart" + told(made.getParameterTypes()));
        }
        for (Method method : AbnfChart.class.getDeclaredMethods()) {
            addIfOpen(open, method, method.getName() + told(method.getParameterTypes()));
        }
        Collections.sort(open);
        return open;
    }

    private static void addIfOpen(List<String> open, Member member, String name) {
        if (!Modifier.isPrivate(member.getModifiers()) && !member.isSynthetic()) {
            open.add(Modifier.isPublic(member.getModifiers()) ? name : "not public: " + name);
        }
    }

    private static String told(Class<?>[] types) {
        StringBuilder all = new StringBuilder();
        for (Class<?> type : types) {
            all.append(all.length() == 0 ? "" : ",").append(type.getName());
        }
        return "(" + all + ")";
    }

    private static boolean isPublicFinal(int modifiers) {
        return Modifier.isPublic(modifiers) && Modifier.isFinal(modifiers);
    }

    private static boolean answersDue() {
        for (Method method : AbnfChart.class.getDeclaredMethods()) {
            Class<?> due = method.getName().equals("matches") ? boolean.class : int.class;
            if (Modifier.isPublic(method.getModifiers()) && method.getReturnType() != due) {
                return false;
            }
        }
        return true;
    }
}
