import java.lang.reflect.Method;
import java.util.ArrayList;
import java.util.List;

/** No call throws, for any arguments in any state: rule 7 of LANGUAGE.md, beyond the 512th call, too. */
public final class AnyCallTest {
    private static final int[] EDGES = {Integer.MIN_VALUE, Integer.MIN_VALUE + 1, -301, -2, -1, 0, 1, 2, 3, 4, 5, 6, 7, 8, 9, 10,
        20, 38, 39, 40, 41, 59, 60, 61, 99, 100, 101, 127, 128, 299, 300, 301, 512, Integer.MAX_VALUE - 1, Integer.MAX_VALUE};
    private static final String[] TEXTS = {"=a(%(!(1),@b(b),!(2)),?(<(:c(+(c,1)),3),^a(a),c))", "[!(a),F(+(a,1))]", "+(1,G(a))",
        "@d(%(!(1),[^d(9),H(b)],!(5)))", "[[[[[[[1]]]]]]]", "^a(1)", "@b(F(b))", "[1,2,3,4,5", "%(H(a),@a(G(a)),F(a))"};
    private static long seed = 1;

    private static int draw(int n) {
        seed = seed * 6364136223846793005L + 1442695040888963407L;
        return (int) ((seed >>> 33) % n);
    }

    private static Object[] arguments(Method m) {
        Class<?>[] types = m.getParameterTypes();
        Object[] given = new Object[types.length];
        for (int i = 0; i < types.length; i++) {
            int v = draw(3) == 0 ? EDGES[draw(EDGES.length)] : draw(9) - 1;
            given[i] = types[i] == int.class ? (Object) v : (Object) (long) v;
        }
        return given;
    }

    public static void main(String[] args) throws ReflectiveOperationException {
        List<Method> face = new ArrayList<>();
        for (Method m : EscapeFrames.class.getDeclaredMethods()) {
            if (java.lang.reflect.Modifier.isPublic(m.getModifiers())) {
                face.add(m);
            }
        }
        face.sort((a, b) -> a.getName().compareTo(b.getName()));
        long calls = 0;
        for (int run = 0; run < 600; run++) {
            EscapeFrames x = new EscapeFrames();
            for (int n = 0; n < 1500; n++) {
                if (draw(60) == 0) {
                    Due.line(x, TEXTS[draw(TEXTS.length)]);
                }
                Method m = face.get(draw(face.size()));
                m.invoke(x, arguments(m));
                calls++;
            }
        }
        System.out.println("AnyCallTest: " + calls + " calls, none threw");
    }
}
