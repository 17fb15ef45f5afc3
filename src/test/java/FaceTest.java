import java.lang.reflect.Constructor;
import java.lang.reflect.Field;
import java.lang.reflect.InvocationTargetException;
import java.lang.reflect.Method;
import java.lang.reflect.Modifier;
import java.util.Arrays;
import java.util.NoSuchElementException;
import java.util.Random;
import java.util.TreeSet;

/** The public face, and that wild arguments draw no exception but those that the face names. */
public final class FaceTest {
    private static final String[] FACE = {
        "int feed(int,int,int,int,int)", "int house(int)!I", "int fault()", "int count(int)!N", "int room(int,int)!N",
        "int lodger(int,int)!N", "int may(int,int,int)!N", "int says(int,int)!N", "int lend(int,int,int)!N", "int back()",
        "void draw(int)", "int does(int,int)!N", "int sign(int,int)!N", "int look(int,int,int)!N", "int theft(int,int)!N",
        "int see(int,int,int)!N", "int forget()", "int cases()", "int inCase(int,int)!N", "int sure(int)!N",
        "int where(int)!N", "int misled(int,int,int)!N", "int chance(int,int)!N", "int round(int,int,int)!NI",
        "int path(int,int)!N", "int rests(int,int,int)!NI", "int fewest(int,int)!I", "int lender(int)!N",
        "int kinds(int,int)!I", "int word(int,int)!NI", "int mend(int,int,int)!I", "long fire(int,int,int,int,int)!NI",
        "void image()", "boolean restore()"};

    private static int wrong = 0;

    public static void main(String[] args) throws Exception {
        face();
        Random random = new Random(11);
        for (int run = 0; run < 300; run++) {
            wild(random);
        }
        if (wrong > 0) {
            System.exit(1);
        }
    }

    private static void complain(String text) {
        wrong++;
        System.out.println(text);
    }

    private static String written(Method method) {
        StringBuilder text = new StringBuilder(method.getReturnType() + " " + method.getName() + "(");
        for (int i = 0; i < method.getParameterCount(); i++) {
            text.append(i > 0 ? "," : "").append(method.getParameterTypes()[i]);
        }
        text.append(')').append(method.getExceptionTypes().length > 0 ? "!" : "");
        for (Class<?> type : method.getExceptionTypes()) {
            text.append(type == NoSuchElementException.class ? "N" : type == IllegalArgumentException.class ? "I" : "?");
        }
        return text.toString();
    }

    private static void face() throws Exception {
        TreeSet<String> due = new TreeSet<>(Arrays.asList(FACE));
        TreeSet<String> got = new TreeSet<>();
        TreeSet<String> names = new TreeSet<>();
        for (Method method : ShoeHouse.class.getDeclaredMethods()) {
            if (!Modifier.isPrivate(method.getModifiers())) {
                got.add(written(method));
                names.add(method.getName());
            }
        }
        if (!due.equals(got)) {
            complain("the face is " + got);
        }
        for (Class<?> type : ShoeHouse.class.getDeclaredClasses()) {
            for (Method method : type.getDeclaredMethods()) {
                if (names.contains(method.getName())) {
                    complain(type + " has a method of the face's name: " + method.getName());
                }
            }
        }
        for (Field field : ShoeHouse.class.getDeclaredFields()) {
            boolean isNone = field.getName().equals("NONE");
            if (isNone != Modifier.isPublic(field.getModifiers()) || !isNone && !Modifier.isPrivate(field.getModifiers())) {
                complain("field " + field);
            }
        }
        Constructor<?>[] made = ShoeHouse.class.getDeclaredConstructors();
        if (made.length != 1 || made[0].getParameterCount() != 0 || !Modifier.isPublic(made[0].getModifiers())) {
            complain("constructors " + Arrays.toString(made));
        }
        if (ShoeHouse.NONE != -1 || !Modifier.isFinal(ShoeHouse.class.getModifiers())) {
            complain("NONE, or the class isn't final");
        }
    }

    private static void wild(Random random) throws IllegalAccessException {
        Method[] methods = Arrays.stream(ShoeHouse.class.getDeclaredMethods())
                .filter(m -> Modifier.isPublic(m.getModifiers())).toArray(Method[]::new);
        ShoeHouse house = random.nextInt(4) == 0 ? new ShoeHouse() : Bench.of("room 9;room 8;room 0;room 77;lodger 3;"
                + "lodger 0 left;lodger 1 right;finder 2;finder 0;may 0 calm 0 20;may 0 at 2 0 20;may 1 cross 3 9;"
                + "may 1 asleep 2 7;may 2 at 0 1 8;may 2 calm 4 6;law calm none;");
        for (int i = 0; i < 512; i++) {
            Method method = methods[random.nextInt(methods.length)];
            Object[] values = new Object[method.getParameterCount()];
            for (int j = 0; j < values.length; j++) {
                values[j] = wildNumber(random);
            }
            try {
                method.invoke(house, values);
            } catch (InvocationTargetException e) {
                Throwable cause = e.getCause();
                boolean isNamed = Arrays.asList(method.getExceptionTypes()).contains(cause.getClass());
                boolean isOwn = cause.getStackTrace()[0].getClassName().startsWith("ShoeHouse");
                if (!isNamed || !isOwn) {
                    complain(method.getName() + Arrays.toString(values) + " throws " + cause);
                }
            }
        }
    }

    private static int wildNumber(Random random) {
        return switch (random.nextInt(8)) {
            case 0 -> random.nextInt();
            case 1 -> Integer.MIN_VALUE;
            case 2 -> Integer.MAX_VALUE;
            case 3 -> -1;
            default -> random.nextInt(25);
        };
    }
}
