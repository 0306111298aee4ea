import java.lang.reflect.Constructor;
import java.lang.reflect.Executable;
import java.lang.reflect.Field;
import java.lang.reflect.Method;
import java.lang.reflect.Modifier;
import java.util.ArrayList;
import java.util.Arrays;
import java.util.List;
import java.util.TreeSet;

/** The class has just the face of the document: its names, types and exceptions, and nothing else that is open. */
public final class FaceTest {
    private static final String X = "IndexOutOfBoundsException";
    private static final String A = "IllegalArgumentException";
    private static final String S = "IllegalStateException";
    private static final String U = "UnsupportedOperationException";
    private static final String N = "NoSuchElementException";

    public static void main(String[] args) {
        TreeSet<String> want = new TreeSet<>(Arrays.asList(
                "int addKind(int,int,int,int) " + List.of(A, S),
                "int buy(int,int) " + List.of(X, A, S),
                "int stock(int) " + List.of(X),
                "int thread(int) " + List.of(A, S),
                "int addCloth(char,int,int) " + List.of(A, S),
                "char state(int) " + List.of(X),
                "int draw(int,int,int,int) " + List.of(X, U),
                "int kindAt(int,int,int) " + List.of(X),
                "int motif(int,int,int,int) " + List.of(X, A, U),
                "int setRules(int,int) " + List.of(X, A),
                "int broken(int,int) " + List.of(X, A),
                "int ways(int,int) " + List.of(X, A, U),
                "int fill(int,int) " + List.of(X, A, U, N),
                "int repeat(int) " + List.of(X, U),
                "boolean isMirrored(int) " + List.of(X, U),
                "int pathLength(int) " + List.of(X),
                "int passAt(int,int) " + List.of(X, N),
                "int work(int) " + List.of(X, U),
                "int passes(int,int,int) " + List.of(X, U),
                "int snap(int,int) " + List.of(X, N, U),
                "int mend(int) " + List.of(X, U),
                "int rowWidth(int,int) " + List.of(X),
                "int lean(int) " + List.of(X),
                "int addShape() " + List.of(S),
                "int addRound(int,int) " + List.of(X, A, S),
                "int bend(int,int) " + List.of(X, N),
                "char form(int) " + List.of(X),
                "int string(int) " + List.of(X, U, S),
                "int strung(int) " + List.of(N),
                "int breakBead(int) " + List.of(N),
                "int wrongAt(int) " + List.of(X, U, N),
                "int crochet(int) " + List.of(X, U),
                "int setWord(int,int,int) " + List.of(A),
                "boolean isClear(int) " + List.of(A),
                "int runs(int,int) " + List.of(X),
                "int runLength(int,int,int,boolean) " + List.of(X, N),
                "int runColour(int,int,int,boolean) " + List.of(X, N),
                "int runWord(int,int,int,int) " + List.of(X, A, N),
                "int shared(int,int,int) " + List.of(X, U),
                "int guess(int,int,int,int) " + List.of(X, A, N),
                "int sell(int) " + List.of(X, U),
                "int money() []",
                "int account(char) " + List.of(A),
                "float share(int,int) " + List.of(X, A, N),
                "int shareBits(int,int) " + List.of(X, A, N),
                "long checksum() []",
                "double meanWidth() " + List.of(N),
                "boolean isSound() []"));
        TreeSet<String> got = new TreeSet<>();
        TreeSet<String> open = new TreeSet<>();
        for (Method method : Beadslant.class.getDeclaredMethods()) {
            if (Modifier.isPublic(method.getModifiers())) {
                got.add(told(method));
                open.add(method.getName());
            }
        }
        Due.is("methods of the face", got.equals(want), true);
        Due.is("the class is public and final",
                Beadslant.class.getModifiers(), Modifier.PUBLIC | Modifier.FINAL);
        Due.is("constructors", Beadslant.class.getDeclaredConstructors().length, 1);
        for (Constructor<?> made : Beadslant.class.getDeclaredConstructors()) {
            Due.is("a public constructor without parameters",
                    made.getModifiers() == Modifier.PUBLIC && made.getParameterCount() == 0, true);
        }
        nothingElseIsOpen(open);
        Due.end();
    }

    private static String told(Method method) {
        StringBuilder text = new StringBuilder(method.getReturnType().getName());
        text.append(' ').append(method.getName()).append('(');
        String comma = "";
        for (Class<?> type : method.getParameterTypes()) {
            text.append(comma).append(type.getName());
            comma = ",";
        }
        List<String> thrown = new ArrayList<>();
        for (Class<?> type : method.getExceptionTypes()) {
            thrown.add(type.getSimpleName());
        }
        return text.append(") ").append(thrown).toString();
    }

    private static void nothingElseIsOpen(TreeSet<String> open) {
        for (Field field : Beadslant.class.getDeclaredFields()) {
            Due.is("field " + field.getName() + " is private", Modifier.isPrivate(field.getModifiers()), true);
        }
        List<Class<?>> classes = new ArrayList<>(List.of(Beadslant.class.getDeclaredClasses()));
        Due.is("at most 12 classes", classes.size() < 12, true);
        classes.add(Beadslant.class);
        for (Class<?> inside : classes) {
            for (Method method : inside.getDeclaredMethods()) {
                boolean isFace = inside == Beadslant.class && Modifier.isPublic(method.getModifiers());
                Due.is("method " + method.getName() + " is private or inside",
                        isFace || inside != Beadslant.class || Modifier.isPrivate(method.getModifiers()), true);
                Due.is("method " + method.getName() + " of " + inside.getName() + " has a name of its own",
                        isFace || !open.contains(method.getName()), true);
                fewParameters(method);
            }
            int fields = 0;
            for (Field field : inside.getDeclaredFields()) {
                fields += Modifier.isStatic(field.getModifiers()) ? 0 : 1;
                Due.is("static field " + field.getName() + " is final", !Modifier.isStatic(field.getModifiers())
                        || Modifier.isFinal(field.getModifiers()), true);
            }
            Due.is("at most 20 fields in " + inside.getName(), fields <= 20, true);
        }
    }

    private static void fewParameters(Executable method) {
        Due.is("parameters of " + method.getName(), method.getParameterCount() <= 7, true);
    }
}
