import java.lang.reflect.Constructor;
import java.lang.reflect.Field;
import java.lang.reflect.Method;
import java.lang.reflect.Modifier;
import java.util.ArrayList;
import java.util.Arrays;
import java.util.List;
import java.util.Set;
import java.util.TreeSet;

/** The public face of the document, and the limits of LANGUAGE.md that the class file shows. */
public final class FaceTest {
    private static final String[] FACE = {
        "int append(int,int)", "int at(int,int)", "int bestSwap(int,int)", "int block(int)",
        "int breakdown(int,int)", "int build(int)", "int cut(int)", "int delay(int,int)",
        "long digest()", "int driver()", "int give(int,int,int)", "int leastBlocks()",
        "int line(int,int,boolean)", "int lost(int)", "int many(int)", "int mayDelay(int)",
        "double meanLate()", "int ofBlock(int,int)", "int ofDriver(int,int)",
        "int ofPiece(int,int,int)", "int ofTrip(int,int)", "int place(int,int,int,boolean)",
        "int rules(int,int)", "boolean sick(int,boolean)", "int swap(int,int,int,int)",
        "int takeBack(int,int)", "int takeOff(int)", "int trip(int,int,int,int,int)",
        "int winter(int,int)", "int wouldLose(int,int)",
    };

    /** The letters of the exceptions that each call says it throws, in the document's order. */
    private static final String[] THROWS = {
        "append IS", "at IA", "bestSwap IA", "block AS", "breakdown IA", "build A", "cut IS",
        "delay IA", "digest ", "driver S", "give IS", "leastBlocks ", "line IA", "lost I",
        "many A", "mayDelay I", "meanLate ", "ofBlock IA", "ofDriver IA", "ofPiece IA",
        "ofTrip IA", "place IAS", "rules A", "sick I", "swap IAS", "takeBack I", "takeOff IS",
        "trip IAS", "winter A", "wouldLose IA",
    };

    public static void main(String[] args) {
        checkFace();
        checkThrows();
        checkMembers();
        checkSizes();
        Check.end();
    }

    private static String told(Method method) {
        List<String> types = new ArrayList<>();
        for (Class<?> type : method.getParameterTypes()) {
            types.add(type.getName());
        }
        return method.getReturnType().getName() + " " + method.getName()
                + "(" + String.join(",", types) + ")";
    }

    private static void checkFace() {
        int modifiers = Blockduty.class.getModifiers();
        Check.isTrue("public", Modifier.isPublic(modifiers));
        Check.isTrue("final", Modifier.isFinal(modifiers));
        Set<String> found = new TreeSet<>();
        for (Method method : Blockduty.class.getDeclaredMethods()) {
            if (!Modifier.isPrivate(method.getModifiers())) {
                Check.isTrue("public: " + method, Modifier.isPublic(method.getModifiers()));
                found.add(told(method));
            }
        }
        Set<String> due = new TreeSet<>(Arrays.asList(FACE));
        Check.isTrue("the face is " + found, found.equals(due));
    }

    private static String letter(Class<?> thrown) {
        return thrown == IndexOutOfBoundsException.class ? "I"
                : thrown == IllegalArgumentException.class ? "A"
                : thrown == IllegalStateException.class ? "S" : "?";
    }

    private static void checkThrows() {
        Set<String> found = new TreeSet<>();
        for (Method method : Blockduty.class.getDeclaredMethods()) {
            if (Modifier.isPublic(method.getModifiers())) {
                StringBuilder told = new StringBuilder(method.getName()).append(' ');
                for (Class<?> thrown : method.getExceptionTypes()) {
                    told.append(letter(thrown));
                }
                found.add(told.toString());
            }
        }
        Set<String> due = new TreeSet<>(Arrays.asList(THROWS));
        Check.isTrue("the exceptions are " + found, found.equals(due));
    }

    private static void checkMembers() {
        Constructor<?>[] constructors = Blockduty.class.getDeclaredConstructors();
        Check.is("constructors", 1, constructors.length);
        Check.is("its parameters", 0, constructors[0].getParameterCount());
        Check.isTrue("it is public", Modifier.isPublic(constructors[0].getModifiers()));
        for (Field field : Blockduty.class.getDeclaredFields()) {
            Check.isTrue("private: " + field, Modifier.isPrivate(field.getModifiers()));
        }
        Set<String> open = new TreeSet<>();
        for (String signature : FACE) {
            open.add(signature.substring(signature.indexOf(' ') + 1, signature.indexOf('(')));
        }
        for (Class<?> inside : Blockduty.class.getDeclaredClasses()) {
            for (Method method : inside.getDeclaredMethods()) {
                Check.isTrue("a name of its own: " + method, !open.contains(method.getName()));
            }
        }
        for (Method method : Blockduty.class.getDeclaredMethods()) {
            Check.isTrue("a name of its own: " + method,
                    Modifier.isPublic(method.getModifiers()) || !open.contains(method.getName()));
        }
    }

    private static void checkSizes() {
        List<Class<?>> all = new ArrayList<>(List.of(Blockduty.class.getDeclaredClasses()));
        all.add(Blockduty.class);
        Check.isTrue("twelve classes at most", all.size() <= 12);
        for (Class<?> one : all) {
            int fields = 0;
            for (Field field : one.getDeclaredFields()) {
                int modifiers = field.getModifiers();
                if (Modifier.isStatic(modifiers)) {
                    Check.isTrue("final: " + field, Modifier.isFinal(modifiers));
                } else {
                    fields++;
                }
            }
            Check.isTrue("twenty fields at most: " + one, fields <= 20);
            for (Method method : one.getDeclaredMethods()) {
                Check.isTrue("seven parameters at most: " + method,
                        method.getParameterCount() <= 7);
            }
        }
    }
}
