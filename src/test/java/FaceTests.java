import java.lang.reflect.Constructor;
import java.lang.reflect.Field;
import java.lang.reflect.Method;
import java.lang.reflect.Modifier;
import java.util.Set;
import java.util.TreeSet;

/** The class shows the document's face and nothing else. */
public final class FaceTests {
    private static final String[] FACE = {
        "int piece(int,int,int)", "int drop()", "int put(int,int,int)", "int of(int,int)", "int tell(int,int)",
        "int told(int)", "int mirror()", "int alike(int)", "int unlike(int)", "int steepestPiece()",
        "long at(int,int,int,int)", "long jump(int,int,int)", "int join(int)", "int joins(int)", "int extreme(int)",
        "long curve(int,int,int)", "long pressure(int,int,int)", "long force(int,int,int)", "int count(int)",
        "int leastRadius()", "int steepest()", "int gentle(int)", "int floating()", "int leastPreload()",
        "int leastStiff()", "int fastest()", "int smoothed()", "long sample(int)", "long error(int,int)",
        "int widest(int)", "int lay(int,int,int,int,int)", "int seen(int,int,int,int)", "int feed(int)", "int clear()",
        "int cam()", "int cause()", "int list(int,int)", "int set(int,int,long)", "long get(int,int)", "int image()",
        "int undo()",
    };

    public static void main(String[] args) {
        Checks checks = new Checks("the face");
        checks.due("methods", shownMethods().toString(), new TreeSet<>(Set.of(FACE)).toString());
        checks.due("constants", shownFields().toString(), "[int BAD, int FULL, int NONE, int STATE, long NO]");
        Constructor<?>[] constructors = CamPieces.class.getDeclaredConstructors();
        checks.due("constructors", constructors.length, 1);
        checks.due("its arguments", constructors[0].getParameterCount(), 0);
        checks.due("class", Modifier.toString(CamPieces.class.getModifiers()), "public final");
        checks.due("NONE", CamPieces.NONE, -1);
        checks.due("BAD", CamPieces.BAD, -2);
        checks.due("STATE", CamPieces.STATE, -3);
        checks.due("FULL", CamPieces.FULL, -4);
        checks.due("NO", CamPieces.NO, Long.MIN_VALUE);
        privateNamesAreOthers(checks);
        checks.end();
    }

    private static Set<String> shownMethods() {
        Set<String> shown = new TreeSet<>();
        for (Method method : CamPieces.class.getDeclaredMethods()) {
            if (Modifier.isPrivate(method.getModifiers())) continue;
            StringBuilder text = new StringBuilder(method.getReturnType() + " " + method.getName() + "(");
            String comma = "";
            for (Class<?> type : method.getParameterTypes()) {
                text.append(comma).append(type);
                comma = ",";
            }
            shown.add(text.append(")").toString());
        }
        return shown;
    }

    private static Set<String> shownFields() {
        Set<String> shown = new TreeSet<>();
        for (Field field : CamPieces.class.getDeclaredFields()) {
            if (!Modifier.isPrivate(field.getModifiers())) shown.add(field.getType() + " " + field.getName());
        }
        return shown;
    }

    private static void privateNamesAreOthers(Checks checks) {
        Set<String> names = new TreeSet<>();
        for (String method : FACE) names.add(method.substring(method.indexOf(' ') + 1, method.indexOf('(')));
        Class<?>[] inner = CamPieces.class.getDeclaredClasses();
        for (Method method : CamPieces.class.getDeclaredMethods()) {
            if (!Modifier.isPublic(method.getModifiers())) {
                checks.due("private " + method.getName(), names.contains(method.getName()), false);
            }
        }
        for (Class<?> one : inner) {
            checks.due(one.getName() + " is static", Modifier.isStatic(one.getModifiers()), true);
            for (Method method : one.getDeclaredMethods()) {
                checks.due(one.getName() + "." + method.getName(), names.contains(method.getName()), false);
            }
        }
    }
}
