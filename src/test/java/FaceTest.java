import java.lang.reflect.Constructor;
import java.lang.reflect.Field;
import java.lang.reflect.Method;
import java.lang.reflect.Modifier;
import java.util.Set;
import java.util.TreeSet;

/** The public face is just that of the document, and no call throws, whatever its arguments are. */
public final class FaceTest {
    private static final Due due = new Due();

    public static void main(String[] args) {
        members();
        wildArguments();
        due.end();
    }

    private static void members() {
        Set<String> seen = new TreeSet<>();
        for (Method m : WireHosts.class.getDeclaredMethods()) {
            if (!Modifier.isPrivate(m.getModifiers())) {
                seen.add(Modifier.toString(m.getModifiers()) + " " + m.getReturnType() + " " + m.getName()
                        + m.getParameterCount());
            }
        }
        for (Field f : WireHosts.class.getDeclaredFields()) {
            if (!Modifier.isPrivate(f.getModifiers())) {
                seen.add(Modifier.toString(f.getModifiers()) + " " + f.getType() + " " + f.getName());
            }
        }
        for (Constructor<?> c : WireHosts.class.getDeclaredConstructors()) {
            seen.add(Modifier.toString(c.getModifiers()) + " constructor " + c.getParameterCount());
        }
        due.same("the face", String.join(", ", seen), "public boolean abort2, public boolean alter3, "
                + "public boolean close2, public boolean connect2, public boolean disturb2, public boolean listen2, "
                + "public boolean ping3, public boolean send3, public constructor 0, public int carry1, "
                + "public int flying1, public int host2, public int octet3, public int read2, public int socket3, "
                + "public int tick1, public static final int NONE");
        due.yes("the class is public and final",
                Modifier.isPublic(WireHosts.class.getModifiers()) && Modifier.isFinal(WireHosts.class.getModifiers()));
    }

    private static void wildArguments() {
        int[] wild = {Integer.MIN_VALUE, Integer.MIN_VALUE + 1, -65536, -2, -1, 0, 1, 2, 3, 16, 37, 255, 256, 65536,
            Integer.MAX_VALUE - 1, Integer.MAX_VALUE};
        for (int a : wild) {
            for (int b : wild) {
                Lab lab = new Lab(due).open();
                lab.x.send(0, 1, 1);
                int clock = lab.x.tick(1);
                lab.x.tick(a);
                lab.x.carry(a);
                lab.x.flying(a);
                lab.x.listen(a, b);
                lab.x.connect(a, b);
                lab.x.read(a, b);
                lab.x.close(a, b);
                lab.x.abort(a, b);
                lab.x.disturb(a, b);
                lab.x.host(a, b);
                for (int c : wild) {
                    lab.x.send(a, b, c);
                    lab.x.ping(a, b, c);
                    lab.x.alter(a, b, c);
                    lab.x.octet(a, b, c);
                    lab.x.socket(a, b, c);
                }
                due.yes("still there", lab.x.tick(1) > clock);
            }
        }
    }
}
