import java.lang.reflect.Constructor;
import java.lang.reflect.Field;
import java.lang.reflect.InvocationTargetException;
import java.lang.reflect.Method;
import java.lang.reflect.Modifier;
import java.util.Arrays;
import java.util.NoSuchElementException;
import java.util.Random;
import java.util.Set;
import java.util.TreeSet;

/** The public face, and that no call ever throws what the document does not name. */
final class FaceTest {
    private static final String FACE = "int feed(int,int,int,int,int) boolean end(int) int library() int fault()"
            + " int reader(int,int) int book(int,int) int now(int) int lend(int,int) int back(int)"
            + " int tell(int,int,int) int forge(int) int mend(int) int burn(int) int buy(int) int days(int)"
            + " int undo() int way(int,int) int wayAt(int) int ring(int) int ringAt(int) int cut()"
            + " int cutting() int deep(int) int fits() int fitting() int ask() int atOnce() int atOnceOf(int)"
            + " int mean(int,int) int slip(int) int byteAt(int) int drawn(int,int) int odds(int,int,int,int)"
            + " int record(int) int told(int) int sentence() int said(int) boolean image(int)"
            + " boolean restore(int) int count(int)";

    public static void main(String[] args) throws ReflectiveOperationException {
        members();
        Check.same("NONE", SequelShelf.NONE, -1);
        for (int seed = 0; seed < 300; seed++) {
            anyCalls(new Random(seed));
        }
        Check.finish();
    }

    private static void members() {
        Class<?> face = SequelShelf.class;
        Check.yes("public and final", Modifier.isPublic(face.getModifiers()) && Modifier.isFinal(face.getModifiers()));
        Set<String> due = new TreeSet<>(Arrays.asList(FACE.split(" (?=int |boolean )")));
        Set<String> are = new TreeSet<>();
        for (Method m : face.getDeclaredMethods()) {
            if (Modifier.isPrivate(m.getModifiers())) {
                Check.no("a private method of a public one's name: " + m.getName(),
                        FACE.contains(" " + m.getName() + "("));
                continue;
            }
            StringBuilder text = new StringBuilder(m.getReturnType() + " " + m.getName() + "(");
            for (Class<?> type : m.getParameterTypes()) {
                text.append(text.charAt(text.length() - 1) == '(' ? "" : ",").append(type);
            }
            are.add(text.append(')').toString());
            Check.yes("public: " + m.getName(), Modifier.isPublic(m.getModifiers()));
        }
        Check.text("methods", are.toString(), due.toString());
        for (Field f : face.getDeclaredFields()) {
            Check.yes("private or NONE: " + f.getName(),
                    Modifier.isPrivate(f.getModifiers()) || f.getName().equals("NONE"));
        }
        Constructor<?>[] constructors = face.getDeclaredConstructors();
        Check.same("one constructor", constructors.length, 1);
        Check.same("without parameters", constructors[0].getParameterCount(), 0);
        for (Class<?> inner : face.getDeclaredClasses()) {
            Check.yes("static: " + inner, Modifier.isStatic(inner.getModifiers()));
            for (Method m : inner.getDeclaredMethods()) {
                Check.no("a method of a public one's name: " + m, FACE.contains(" " + m.getName() + "("));
            }
        }
    }

    /** Calls in any order with any arguments: only reader and mean throw, and only what is told. */
    private static void anyCalls(Random random) throws ReflectiveOperationException {
        SequelShelf x = new SequelShelf();
        if (random.nextInt(3) != 0) {
            Check.put(x, "book a 9 2;book b 3 1;book c 30 0;after b a;after a c;after c a;after c b;"
                    + "reader p 3;reader q 30;reader r 9;");
            x.library();
        }
        Method[] methods = SequelShelf.class.getMethods();
        Arrays.sort(methods, (a, b) -> a.toString().compareTo(b.toString()));
        for (int i = 0; i < 500; i++) {
            Method m = methods[random.nextInt(methods.length)];
            if (m.getDeclaringClass() != SequelShelf.class) {
                continue;
            }
            Object[] values = new Object[m.getParameterCount()];
            for (int k = 0; k < values.length; k++) {
                values[k] = anyNumber(random);
            }
            try {
                m.invoke(x, values);
            } catch (InvocationTargetException e) {
                boolean may = m.getName().equals("reader") || m.getName().equals("mean");
                Check.yes(m.getName() + Arrays.toString(values) + " threw " + e.getCause(),
                        may && e.getCause().getClass() == NoSuchElementException.class);
            }
        }
    }

    private static int anyNumber(Random random) {
        switch (random.nextInt(6)) {
            case 0: return random.nextInt();
            case 1: return random.nextBoolean() ? Integer.MIN_VALUE : Integer.MAX_VALUE;
            case 2: return random.nextInt(1000) - 20;
            case 3: return 0x61202020 + random.nextInt(16) * 0x01000000;
            default: return random.nextInt(9) - 1;
        }
    }
}
