import java.lang.reflect.Constructor;
import java.lang.reflect.Field;
import java.lang.reflect.Member;
import java.lang.reflect.Method;
import java.lang.reflect.Modifier;
import java.util.ArrayList;
import java.util.Arrays;
import java.util.List;
import java.util.TreeSet;

/** The public face, and nothing else public; rule 1 of LANGUAGE.md, as far as the compiled class tells it. */
public final class FaceTest {
    private static final String[] FACE = {
        "int row(int,int)", "int lay(int,int,int)", "int at(int,int)", "int tear(int)",
        "int copy(int,int,int,int,int)", "int mean(int)", "int text(int,int)", "int put(int,int,int)",
        "int fault(int)", "int village(int)", "int house(int)", "int need(int,int)", "int mark(int,int)",
        "int start(int)", "int carry(int,int)", "int chance(int,int)", "int order(int)", "int begins(int,int)",
        "int can(int)", "int sets()", "int best()", "int first(int,int)", "int orders(int)", "int costs(int)",
        "int worn(int)", "int rule(int,int)", "int wise()", "int second(int)", "int two(int,int)",
        "int mends(int,int)", "int odds()", "int call(int)", "int keep(int)", "int deal(int,int,int,int)",
        "int undo(int)", "int owes(int,int)", "int rich()", "int pocket(int,int)", "int find(int)",
        "int track(int,int)", "int forget(int)", "int could(int)", "int liar()", "int image(int)", "int on(int)",
        "int asked()", "long upper()", "long lower()", "int count(int)", "int finding()", "int findings(int)",
        "long digest()"};

    public static void main(String[] args) {
        constants();
        methods();
        othersArePrivate();
        Check.end();
    }

    private static void constants() {
        Check.due("BAD", CoatBetween.BAD, -1);
        Check.due("FULL", CoatBetween.FULL, -2);
        Check.due("FINDING", CoatBetween.FINDING, -3);
        Check.due("STATE", CoatBetween.STATE, -4);
        Check.due("SPENT", CoatBetween.SPENT, -6);
        Check.due("NONE", CoatBetween.NONE, -9);
        TreeSet<String> names = new TreeSet<>();
        for (Field field : CoatBetween.class.getDeclaredFields()) {
            if (!Modifier.isPrivate(field.getModifiers())) {
                names.add(field.getName());
            }
        }
        TreeSet<String> want = new TreeSet<>(List.of("BAD", "FULL", "FINDING", "STATE", "SPENT", "NONE"));
        Check.due("no other constant: " + names, names.equals(want) ? 1 : 0, 1);
    }

    private static void methods() {
        TreeSet<String> got = new TreeSet<>();
        for (Method method : CoatBetween.class.getDeclaredMethods()) {
            if (Modifier.isPublic(method.getModifiers())) {
                got.add(told(method));
                Check.due(method.getName() + " is static", Modifier.isStatic(method.getModifiers()) ? 1 : 0, 0);
            }
        }
        TreeSet<String> want = new TreeSet<>(Arrays.asList(FACE));
        Check.due("the face " + got, got.equals(want) ? 1 : 0, 1);
        Constructor<?>[] constructors = CoatBetween.class.getDeclaredConstructors();
        Check.due("constructors", constructors.length, 1);
        Check.due("its parameters", constructors[0].getParameterCount(), 0);
        Check.due("it is public", Modifier.isPublic(constructors[0].getModifiers()) ? 1 : 0, 1);
        int modifiers = CoatBetween.class.getModifiers();
        Check.due("public, final", Modifier.isPublic(modifiers) && Modifier.isFinal(modifiers) ? 1 : 0, 1);
    }

    private static String told(Method method) {
        StringBuilder told = new StringBuilder(method.getReturnType().getName());
        told.append(' ').append(method.getName()).append('(');
        for (Class<?> type : method.getParameterTypes()) {
            told.append(told.charAt(told.length() - 1) == '(' ? "" : ",").append(type.getName());
        }
        return told.append(')').toString();
    }

    private static void othersArePrivate() {
        TreeSet<String> faceNames = new TreeSet<>();
        for (String call : FACE) {
            faceNames.add(call.substring(call.indexOf(' ') + 1, call.indexOf('(')));
        }
        List<Class<?>> classes = new ArrayList<>(List.of(CoatBetween.class.getDeclaredClasses()));
        Check.due("classes with the outer one, 12 at most", Math.max(12, classes.size() + 1), 12);
        for (Class<?> inside : classes) {
            Check.due(inside + " is static", Modifier.isStatic(inside.getModifiers()) ? 1 : 0, 1);
            Check.due(inside + " is public", Modifier.isPublic(inside.getModifiers()) ? 1 : 0, 0);
        }
        classes.add(CoatBetween.class);
        for (Class<?> one : classes) {
            List<Member> members = new ArrayList<>(List.of(one.getDeclaredMethods()));
            for (Member member : members) {
                boolean isFace = one == CoatBetween.class && Modifier.isPublic(member.getModifiers());
                boolean isPrivate = one != CoatBetween.class || Modifier.isPrivate(member.getModifiers());
                Check.due(member + " is of the face or private", isFace || isPrivate ? 1 : 0, 1);
                boolean hasFaceName = !isFace && faceNames.contains(member.getName());
                Check.due(member + " bears the name of a public one", hasFaceName ? 1 : 0, 0);
            }
            fieldsAreFew(one);
        }
    }

    private static void fieldsAreFew(Class<?> one) {
        int fields = 0;
        for (Field field : one.getDeclaredFields()) {
            boolean isStatic = Modifier.isStatic(field.getModifiers());
            fields += isStatic ? 0 : 1;
            Check.due(field + " is no static state", !isStatic || Modifier.isFinal(field.getModifiers()) ? 1 : 0, 1);
        }
        Check.due(one + ": fields, 20 at most", Math.max(20, fields), 20);
    }
}
