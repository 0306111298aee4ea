import java.lang.reflect.Method;
import java.lang.reflect.Modifier;

/** Each sentence of the document that names a bound, by its promise; and that none was left out. */
public final class BoundsTest {
    public static void main(String[] args) {
        BoundsOfBeads.all();
        BoundsOfCloths.all();
        BoundsOfRules.all();
        BoundsOfPaths.all();
        BoundsOfString.all();
        BoundsOfWords.all();
        BoundsOfSales.all();
        int sentences = 0;
        for (int promise = 1; promise <= 49; promise++) {
            sentences += Due.sentencesOf(promise);
            Due.is("promise " + promise + " has a sentence", Due.sentencesOf(promise) > 0, true);
        }
        eachExceptionWasDue();
        System.out.println(sentences + " sentences");
        Due.end();
    }

    private static void eachExceptionWasDue() {
        for (Method method : Beadslant.class.getDeclaredMethods()) {
            if (Modifier.isPublic(method.getModifiers())) {
                for (Class<?> thrown : method.getExceptionTypes()) {
                    String told = method.getName() + " " + thrown.getSimpleName();
                    Due.is(told + " was due of a call", Due.refusals().contains(told), true);
                }
            }
        }
    }
}
