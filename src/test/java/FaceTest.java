import java.lang.reflect.Field;
import java.lang.reflect.Method;
import java.lang.reflect.Modifier;
import java.util.ArrayList;
import java.util.Collections;
import java.util.HashSet;
import java.util.List;
import java.util.Set;

/** The public face: just what the document tells, and nothing else that can be reached. */
public final class FaceTest {
    /** I, A and S are the exceptions of index, argument and state, in the order of the document. */
    private static final String[] METHODS = {
        "int take(int) I", "int takeSet(int,int) I", "int put(int,int,int) IAS", "int cut(int,int) I", "int commits() ",
        "int line(int,int,int) I", "int before(int) I", "int tip(int) I", "int namedAfter(int) I", "int open(int) IS",
        "int upload(int,int) IS", "int rebase(int,int) IS", "int abandon(int,int) IS", "int restore(int) IS",
        "int setFlags(int,boolean,boolean) IS", "int setTopic(int,int) IA", "int changes() ", "int stateOf(int) I",
        "int sets(int) I", "int commitOf(int,int) I", "int kindOf(int,int) I", "int parentOf(int) I",
        "int hunks(int,int,int,int,boolean) I", "int hunkAt(int,int,int,int,boolean,int) I",
        "int comment(int,int,int,int,int,int,boolean) IAS", "int answer(int,int,boolean) IS", "int publish(int,int) IS",
        "int shown(int,int) I", "int unresolved(int) I", "int find(int,int,int,int,int,int) IAS",
        "int takeFixes(int,int) IAS", "int setOwners(int,int,int,boolean) IA", "boolean setInclude(int,int,boolean) I",
        "int setLastResort(int) I", "int owners(int,int) I", "int fewest(int) I", "int vote(int,int,int,int,int) IAS",
        "int worth(int,int,int,int) IA", "int setCopied(int,int,int) A", "int addRule(int,int,int) AS",
        "int dropRule(int) I", "int statements(int) I", "int lacks(int) I", "int setWay(int,int) IA", "int group(int) IS",
        "int land(int,int) IS", "boolean addReviewer(int,int) IS", "int reviewers(int) I", "int whoseTurn(int) I",
        "boolean watch(int,int,boolean) I", "int mails(int) I", "int advance(int) AS", "int day() ",
    };
    private static final String[] CONSTANTS = {
        "NONE -1", "OPEN 0", "LANDED 1", "ABANDONED 2", "REWORK 0", "TRIVIAL 1", "SAME 2", "REVIEW 0", "VERIFY 1",
        "FORWARD 0", "PICK 1", "SQUASH 2",
    };

    public static void main(String[] args) throws IllegalAccessException {
        Class<?> face = ReviewForge.class;
        Expect.due(1, "public and final", Modifier.toString(face.getModifiers()), "public final");
        Expect.due(1, "without a package", face.getPackageName(), "");
        Expect.due(1, "constructors", face.getDeclaredConstructors().length, 1);
        Expect.due(1, "the constructor", face.getConstructors()[0].toString(), "public ReviewForge()");
        methods(face);
        constants(face);
        classesInside(face);
        Expect.finish("FaceTest");
    }

    private static void methods(Class<?> face) {
        List<String> got = new ArrayList<>();
        for (Method method : face.getDeclaredMethods()) {
            int modifiers = method.getModifiers();
            if (Modifier.isPrivate(modifiers)) {
                continue;
            }
            Expect.due(1, method + " is public alone", Modifier.toString(modifiers), "public");
            got.add(told(method));
        }
        Collections.sort(got);
        List<String> want = new ArrayList<>(List.of(METHODS));
        Collections.sort(want);
        Expect.due(1, "the methods", got.toString(), want.toString());
    }

    private static String told(Method method) {
        StringBuilder text = new StringBuilder(method.getReturnType() + " " + method.getName() + "(");
        for (Class<?> parameter : method.getParameterTypes()) {
            text.append(text.charAt(text.length() - 1) == '(' ? "" : ",").append(parameter);
        }
        text.append(") ");
        for (Class<?> thrown : method.getExceptionTypes()) {
            String name = thrown.getSimpleName();
            text.append(name.startsWith("Index") ? 'I' : name.startsWith("IllegalArgument") ? 'A' : 'S');
        }
        return text.toString();
    }

    private static void constants(Class<?> face) throws IllegalAccessException {
        List<String> got = new ArrayList<>();
        for (Field field : face.getDeclaredFields()) {
            if (Modifier.isPrivate(field.getModifiers())) {
                continue;
            }
            String modifiers = Modifier.toString(field.getModifiers());
            Expect.due(1, field.getName(), modifiers, "public static final");
            got.add(field.getName() + " " + field.getInt(null));
        }
        Expect.due(1, "the constants", got.toString(), List.of(CONSTANTS).toString());
    }

    private static void classesInside(Class<?> face) {
        Set<String> names = new HashSet<>();
        for (Method method : face.getMethods()) {
            names.add(method.getName());
        }
        List<Class<?>> all = new ArrayList<>(List.of(face.getDeclaredClasses()));
        Expect.due(1, "at most twelve classes", all.size() < 12, true);
        all.add(face);
        for (Class<?> inside : all) {
            if (inside != face) {
                Expect.due(1, inside + " is static", Modifier.isStatic(inside.getModifiers()), true);
                boolean isHidden = !Modifier.isPublic(inside.getModifiers()) && !Modifier.isProtected(inside.getModifiers());
                Expect.due(1, inside + " is hidden", isHidden, true);
            }
            int fields = 0;
            for (Field field : inside.getDeclaredFields()) {
                fields += Modifier.isStatic(field.getModifiers()) ? 0 : 1;
                boolean isConstant = !Modifier.isStatic(field.getModifiers()) || Modifier.isFinal(field.getModifiers());
                Expect.due(1, field + " is a constant, if it is static", isConstant, true);
            }
            Expect.due(1, inside + " has at most 20 fields", fields <= 20, true);
            for (Method method : inside.getDeclaredMethods()) {
                boolean isOfFace = inside == face && Modifier.isPublic(method.getModifiers());
                Expect.due(1, method + " has a name of its own", isOfFace || !names.contains(method.getName()), true);
                Expect.due(1, method + " has at most seven parameters", method.getParameterCount() <= 7, true);
            }
        }
    }
}
