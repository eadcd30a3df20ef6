import java.lang.reflect.Constructor;
import java.lang.reflect.Executable;
import java.lang.reflect.Field;
import java.lang.reflect.Method;
import java.lang.reflect.Modifier;
import java.util.HashSet;
import java.util.Set;
import java.util.StringJoiner;
import java.util.TreeSet;

/** The class has the public face that the document prints, and no other member. */
public final class FaceTest {
    private static final String INDEX = "IndexOutOfBoundsException";
    private static final String ARGUMENT = "IllegalArgumentException";
    private static final String STATE = "IllegalStateException";

    private static final String[] FACE = {
        "int send(int, int, int, int) " + INDEX + " " + ARGUMENT + " " + STATE,
        "int recall(int) " + INDEX,
        "int persuade(int, int) " + INDEX,
        "int lead(int, int) " + INDEX + " " + STATE,
        "int setStrength(int) " + ARGUMENT,
        "int passRounds(int) " + ARGUMENT,
        "int delegates()",
        "int rounds()",
        "int strength()",
        "int villageOf(int) " + INDEX,
        "int wishOf(int) " + INDEX,
        "int reachOf(int) " + INDEX,
        "int paceOf(int) " + INDEX,
        "int plankOf(int) " + INDEX,
        "int standingOn(int) " + INDEX,
        "int spread()",
        "boolean isTreaty()",
        "int compromise() " + STATE,
        "int compromiseOf(int) " + INDEX + " " + STATE,
        "int compromiseWithout(int) " + INDEX + " " + STATE,
        "int decisiveOne() " + STATE,
        "int discontentOf(int) " + INDEX,
        "int allDiscontent()",
        "int bestPlank() " + STATE,
        "int votesFor(int, int) " + INDEX + " " + ARGUMENT,
        "int winnerOf(int, int) " + INDEX + " " + ARGUMENT,
        "boolean canLeadTo(int, int) " + INDEX,
        "int wouldStepTo(int) " + INDEX,
        "boolean isStill()",
        "int plankIn(int, int) " + INDEX + " " + ARGUMENT,
        "int compromiseIn(int) " + ARGUMENT + " " + STATE,
        "int roundsUntilTreaty()",
        "int roundsUntilStill()",
        "int bestStand(int) " + INDEX,
        "double meanPlank()",
        "long digest()",
    };

    public static void main(String[] args) {
        Answers answers = new Answers();
        Class<?> type = RopeChoices.class;
        answers.due("the class's modifiers", Modifier.PUBLIC | Modifier.FINAL, type::getModifiers);
        answers.due("the methods", new TreeSet<>(Set.of(FACE)), () -> openMethods(type));
        answers.due("the constructors", Set.of("()"), () -> constructors(type));
        answers.due("the open fields", Set.of(), () -> openFields(type));
        answers.due("private methods with a public name", Set.of(), () -> hiddenNamesakes(type));
        answers.due("changeable static fields", Set.of(), () -> changeableStatics(type));
        answers.end("FaceTest");
    }

    private static Set<String> openMethods(Class<?> type) {
        Set<String> found = new TreeSet<>();
        for (Method m : type.getDeclaredMethods()) {
            if (!Modifier.isPrivate(m.getModifiers())) {
                String kind = m.getModifiers() == Modifier.PUBLIC ? "" : "not just public: ";
                found.add(kind + m.getReturnType() + " " + m.getName() + parametersAndThrows(m));
            }
        }
        return found;
    }

    private static Set<String> constructors(Class<?> type) {
        Set<String> found = new TreeSet<>();
        for (Constructor<?> c : type.getDeclaredConstructors()) {
            String kind = c.getModifiers() == Modifier.PUBLIC ? "" : "not just public: ";
            found.add(kind + parametersAndThrows(c));
        }
        return found;
    }

    private static String parametersAndThrows(Executable e) {
        StringJoiner parameters = new StringJoiner(", ", "(", ")");
        for (Class<?> p : e.getParameterTypes()) {
            parameters.add(p.getName());
        }
        StringBuilder text = new StringBuilder(parameters.toString());
        for (Class<?> t : e.getExceptionTypes()) {
            text.append(' ').append(t.getSimpleName());
        }
        return text.toString();
    }

    private static Set<String> openFields(Class<?> type) {
        Set<String> found = new TreeSet<>();
        for (Field f : type.getDeclaredFields()) {
            if (!Modifier.isPrivate(f.getModifiers())) {
                found.add(f.getName());
            }
        }
        return found;
    }

    private static Set<String> hiddenNamesakes(Class<?> type) {
        Set<String> open = new HashSet<>();
        for (Method m : type.getMethods()) {
            open.add(m.getName());
        }
        Set<String> found = new TreeSet<>();
        for (Method m : type.getDeclaredMethods()) {
            if (Modifier.isPrivate(m.getModifiers()) && open.contains(m.getName())) {
                found.add(m.getName());
            }
        }
        return found;
    }

    private static Set<String> changeableStatics(Class<?> type) {
        Set<String> found = new TreeSet<>();
        for (Field f : type.getDeclaredFields()) {
            if (Modifier.isStatic(f.getModifiers()) && !Modifier.isFinal(f.getModifiers())) {
                found.add(f.getName());
            }
        }
        return found;
    }
}
