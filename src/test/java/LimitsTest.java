import java.lang.reflect.Method;
import java.lang.reflect.Modifier;
import java.util.Random;

/** No call throws, whatever it is given in whatever state; the dearest calls are bearable as often as an object is used. */
public final class LimitsTest {
    private static final Check CHECK = new Check();
    private static final int[] ODD = {Integer.MIN_VALUE, -1000, -2, -1, 0, 1, 2, 5, 6, 7, 8, 17, 24, 25, 31, 32, 50, 60,
        400, 600, 999, 1000, 65536, Integer.MAX_VALUE};
    private static final String[] TEXTS = {"", "up:jump up;", "room copies 1;load f a 0;add g a a;",
        "late 9;aa:load a a 1;store a b 2;store c b 3;load d b 2;if d>a aa;", "end;".repeat(24),
        "reg a 999;reg b 999;mul c a b;store c c 31;load d c 31;"};

    public static void main(String[] args) throws ReflectiveOperationException {
        oddArguments();
        dearest();
        CHECK.finish();
    }

    private static void oddArguments() throws ReflectiveOperationException {
        CHECK.about("odd arguments");
        Random random = new Random(17);
        for (int run = 0; run < 200; run++) {
            TwoProcessors x = Check.of(TEXTS[run % TEXTS.length]);
            for (int call = 0; call < 500; call++) {
                anyCall(x, random);
            }
            CHECK.due("a tape is never too long", x.count(10) >= 0 && x.count(10) <= 600, true);
        }
    }

    private static void anyCall(TwoProcessors x, Random random) throws ReflectiveOperationException {
        Method[] all = TwoProcessors.class.getDeclaredMethods();
        Method m = all[random.nextInt(all.length)];
        if (!Modifier.isPublic(m.getModifiers())) {
            return;
        }
        Object[] with = new Object[m.getParameterCount()];
        for (int i = 0; i < with.length; i++) {
            with[i] = m.getParameterTypes()[i] == boolean.class ? (Object) random.nextBoolean()
                : (Object) ODD[random.nextInt(ODD.length)];
        }
        m.invoke(x, with);
    }

    private static void dearest() {
        CHECK.about("the dearest calls");
        TwoProcessors x = Check.of("up:add b b b;jump up;" + "set a 1;".repeat(22));
        for (int i = 0; i < 500; i++) {
            CHECK.due("best()", x.best(), -1);
        }
    }
}
