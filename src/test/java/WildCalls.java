import java.lang.reflect.Method;
import java.util.Arrays;
import java.util.Comparator;

/** Any call with any numbers in any state: none throws, each refusal is counted once and changes nothing else. */
public final class WildCalls {
    private static final int RUNS = 1500, CALLS = 512;
    private static final int[] ODD = {-1, -2, -3, 5, 6, 7, 8, 9, 10, 11, 23, 24, 25, 99, 100, 127, 128, 250, 251, 255, 256,
        1 << 30, Integer.MAX_VALUE, Integer.MIN_VALUE, Integer.MIN_VALUE + 1};

    private static long seed = 5;

    private static int below(int bound) {
        seed = seed * 6364136223846793005L + 1442695040888963407L;
        return (int) ((seed >>> 33) % bound);
    }

    private static int number() {
        return below(5) == 0 ? ODD[below(ODD.length)] : below(5);
    }

    /** By name, as the machine may tell them in any order. */
    private static Method[] calls() {
        Method[] all = Arrays.stream(LentTerms.class.getDeclaredMethods())
            .filter(m -> java.lang.reflect.Modifier.isPublic(m.getModifiers())).toArray(Method[]::new);
        Arrays.sort(all, Comparator.comparing(Method::getName));
        return all;
    }

    private static Object[] arguments(Method call) {
        Class<?>[] types = call.getParameterTypes();
        Object[] args = new Object[types.length];
        for (int i = 0; i < args.length; i++) {
            if (types[i] == long.class) {
                args[i] = (long) number() << below(40);
            } else {
                args[i] = number();
            }
        }
        return args;
    }

    private static int refusalOf(Method call, long answer) {
        boolean ten = call.getName().equals("roundAbout") || call.getName().equals("plan") || call.getName().equals("deal");
        if (answer == -10 && ten || answer == -1 && call.getName().equals("status")) {
            return 0;
        }
        boolean free = call.getName().equals("digest") || call.getName().equals("read");
        return answer <= -2 && answer >= -4 && !free ? (int) (-2 - answer) : -1;
    }

    private static boolean isRunFine(Method[] calls) throws ReflectiveOperationException {
        LentTerms x = new LentTerms();
        for (int i = 0; i < CALLS; i++) {
            Method call = calls[below(calls.length)];
            Object[] args = arguments(call);
            long before = x.digest();
            int[] status = {x.status(0), x.status(1), x.status(2)};
            long answer = ((Number) call.invoke(x, args)).longValue();
            int refusal = refusalOf(call, answer);
            if (refusal >= 0) {
                status[refusal]++;
            }
            boolean fine = status[0] == x.status(0) && status[1] == x.status(1) && status[2] == x.status(2)
                && (refusal < 0 || before == x.digest());
            if (!fine) {
                System.out.println(call.getName() + Arrays.toString(args) + " answered " + answer
                    + " and changed more or less than it may");
                return false;
            }
        }
        return true;
    }

    public static void main(String[] args) throws ReflectiveOperationException {
        Method[] calls = calls();
        boolean fine = calls.length == 32;
        for (int run = 0; run < RUNS && fine; run++) {
            fine = isRunFine(calls);
        }
        System.out.println(fine ? "no call went wild" : "a call went wild");
        if (!fine) {
            System.exit(1);
        }
    }
}
