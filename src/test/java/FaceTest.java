import java.lang.reflect.Constructor;
import java.lang.reflect.Field;
import java.lang.reflect.Method;
import java.lang.reflect.Modifier;
import java.util.Set;
import java.util.TreeSet;

/** The public face is the document's one, and everything else is hidden. */
public final class FaceTest {
    private static final String[] FACE = {
        "int append(int int int int int)", "int truncate(int)", "int setup()", "int errorCode()",
        "int errorPosition()", "int run(int)", "int fire(int)", "int stop()", "int take()", "int acknowledge(int)",
        "int setSignal(int int int int)", "int setSample(int int)", "int setWindow(int int int)", "int setPace(int)",
        "int state(int)", "int sequence(boolean int)", "int entry(boolean int)", "int channel(int int)",
        "long sum(int)", "double mean(int)", "int trigger(int int)", "int window(int int)", "int signal(int int)",
        "int queued(int int)", "int stored(int int)", "int memorySize()", "int injected(int int)",
        "double latency(boolean)", "int nextResult(int)", "int whenRaised(int int)", "int overrunsWith(int int)",
        "int slowestPace(int)", "int passLength(boolean)", "int save(int)", "int restore(int)"};

    public static void main(String[] args) {
        Set<String> due = new TreeSet<>(Set.of(FACE));
        Set<String> got = new TreeSet<>();
        Set<String> publicNames = new TreeSet<>();
        for (Method method : ConverterScanner.class.getDeclaredMethods()) {
            if (Modifier.isPublic(method.getModifiers())) {
                got.add(signature(method));
                publicNames.add(method.getName());
            }
        }
        Bench.dueText("the public methods", got.toString(), due.toString());
        for (Method method : ConverterScanner.class.getDeclaredMethods()) {
            boolean isHidden = Modifier.isPrivate(method.getModifiers()) && !publicNames.contains(method.getName());
            Bench.due(method.getName() + " is of the face or hidden",
                    Modifier.isPublic(method.getModifiers()) || isHidden ? 1 : 0, 1);
        }
        for (Field field : ConverterScanner.class.getDeclaredFields()) {
            boolean isFace = Modifier.isPublic(field.getModifiers());
            Bench.due(field.getName() + " is of the face or hidden",
                    isFace == field.getName().equals("NONE") && (isFace || Modifier.isPrivate(field.getModifiers()))
                    ? 1 : 0, 1);
        }
        Constructor<?>[] constructors = ConverterScanner.class.getDeclaredConstructors();
        Bench.due("the number of constructors", constructors.length, 1);
        Bench.due("the constructor's arguments", constructors[0].getParameterCount(), 0);
        Bench.due("the class is public and final",
                ConverterScanner.class.getModifiers(), Modifier.PUBLIC | Modifier.FINAL);
        Bench.due("NONE", ConverterScanner.NONE, -1);
        Bench.end("FaceTest");
    }

    private static String signature(Method method) {
        StringBuilder text = new StringBuilder();
        text.append(method.getReturnType().getName()).append(' ').append(method.getName()).append('(');
        for (Class<?> type : method.getParameterTypes()) {
            text.append(text.charAt(text.length() - 1) == '(' ? "" : " ").append(type.getName());
        }
        return text.append(')').toString();
    }
}
