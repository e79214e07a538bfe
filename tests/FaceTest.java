import java.lang.reflect.Constructor;
import java.lang.reflect.Field;
import java.lang.reflect.Method;
import java.lang.reflect.Modifier;
import java.util.Map;
import java.util.Set;
import java.util.TreeSet;

/** The public face, and rules 1 and 5 of LANGUAGE.md as far as the compiled class shows them. */
public final class FaceTest {
    private static final Set<String> FACE = Set.of(
        "int put(int,int)", "int putAll()", "int move(int,int)", "int takeOff(int)", "int setPots(int)",
        "int set(int,int)", "int shoot(int,int,int,int,int)", "int pass(int)", "int type(char)",
        "int clearText()", "int undo()", "int keep()", "int restore()", "int cell(int,int)",
        "int ofCell(int,int)", "int ball(int,int)", "int would(int,int,int,int,int)",
        "float speedLeft(int,int,int,int)", "int along(int,int,int,boolean)", "int best(int,int,int)",
        "int count(int)");
    private static final Map<String, Integer> CONSTANTS =
        Map.of("UNKNOWN", -1, "BAD_VALUE", -2, "FULL", -3, "NOT_POSSIBLE", -4, "NONE", -5);

    public static void main(String[] args) throws Exception {
        Class<?> type = HexBilliards.class;
        Check.holds("the class is public and final",
            Modifier.isPublic(type.getModifiers()) && Modifier.isFinal(type.getModifiers()));
        constructors(type);
        methods(type);
        fields(type);
        classesInside(type);
        Check.end("FaceTest");
    }

    private static void constructors(Class<?> type) {
        Constructor<?>[] all = type.getDeclaredConstructors();
        Check.holds("one constructor, public, without parameters",
            all.length == 1 && Modifier.isPublic(all[0].getModifiers()) && all[0].getParameterCount() == 0);
    }

    private static void methods(Class<?> type) {
        Set<String> names = new TreeSet<>();
        Set<String> face = new TreeSet<>();
        for (Method method : type.getDeclaredMethods()) {
            if (!Modifier.isPrivate(method.getModifiers())) {
                face.add(told(method));
                names.add(method.getName());
            }
        }
        Check.holds("the methods are " + FACE + " and not " + face, face.equals(new TreeSet<>(FACE)));
        for (Method method : type.getDeclaredMethods()) {
            Check.holds("rule 1: private " + method.getName() + " has a name of its own",
                !Modifier.isPrivate(method.getModifiers()) || !names.contains(method.getName()));
        }
    }

    private static String told(Method method) {
        StringBuilder told = new StringBuilder(method.getReturnType() + " " + method.getName() + "(");
        for (int i = 0; i < method.getParameterCount(); i++) {
            told.append(i == 0 ? "" : ",").append(method.getParameterTypes()[i]);
        }
        boolean plain = Modifier.isPublic(method.getModifiers()) && !Modifier.isStatic(method.getModifiers());
        return told.append(plain ? ")" : ") not as in the face").toString();
    }

    private static void fields(Class<?> type) throws Exception {
        int shown = 0;
        for (Field field : type.getDeclaredFields()) {
            if (!Modifier.isPrivate(field.getModifiers())) {
                shown++;
                Integer want = CONSTANTS.get(field.getName());
                Check.holds(field.getName() + " is a public constant of the face", want != null
                    && Modifier.isStatic(field.getModifiers()) && Modifier.isFinal(field.getModifiers())
                    && Modifier.isPublic(field.getModifiers()));
                Check.due(field.getName(), want == null ? 0 : field.getInt(null), want == null ? 1 : want);
            }
            onlyFinalStatics(field);
        }
        Check.due("constants", shown, CONSTANTS.size());
    }

    private static void classesInside(Class<?> type) {
        Class<?>[] inside = type.getDeclaredClasses();
        Check.holds("rule 11: some twelve classes", inside.length < 12);
        for (Class<?> one : inside) {
            Check.holds("rule 1: " + one.getName() + " is static and not public",
                Modifier.isStatic(one.getModifiers()) && !Modifier.isPublic(one.getModifiers())
                    && !Modifier.isProtected(one.getModifiers()));
            int fields = 0;
            for (Method method : one.getDeclaredMethods()) {
                Check.holds("rule 1: " + one.getName() + "." + method.getName() + " has a name of its own",
                    FACE.stream().noneMatch(told -> told.contains(" " + method.getName() + "(")));
            }
            for (Field field : one.getDeclaredFields()) {
                onlyFinalStatics(field);
                fields += Modifier.isStatic(field.getModifiers()) ? 0 : 1;
            }
            Check.holds("rule 11: fields of " + one.getName(), fields <= 20);
        }
    }

    private static void onlyFinalStatics(Field field) {
        Check.holds("rule 5: " + field.getName() + " is final if it is static",
            !Modifier.isStatic(field.getModifiers()) || Modifier.isFinal(field.getModifiers()));
    }
}
