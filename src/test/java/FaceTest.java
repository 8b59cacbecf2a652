import java.lang.reflect.Constructor;
import java.lang.reflect.Field;
import java.lang.reflect.Method;
import java.lang.reflect.Modifier;
import java.util.Arrays;
import java.util.Set;
import java.util.TreeSet;

/** The face of the class is the document's and no more; rule 1 of the language. */
final class FaceTest {
    private static final String[] CALLS = {
        "int leg(int,int)", "int warm(int,int)", "int warmth(int)", "int outer(int,int)", "int pipe(int,boolean)",
        "int engine(int,int)", "int breaks(int)", "int sea(int)", "int hours(int)", "int first(int,int)",
        "int lot(int,int)", "int lay(int,int)", "int about(int,int)", "int as(int,int)", "int letters(long)",
        "int blank()", "int fault()", "int text()", "int says(int,int)", "long sum(int,int,int)",
        "int lost(int,int)", "int way(int)", "int reading(int,int)", "int rate(int)", "int could(int,int)",
        "int was(int,int,int)", "int arrive(int)", "int laid(int,int,int)", "int flock(int,int)",
        "int works(int,int)", "int days(int,int,int)", "int loss(int)", "int driven(int)", "int market(int,int)",
        "int seller(int,int)", "int week(int,int)", "int turns(int)", "int farm(int,int)", "int owe(int,int,int)",
        "int falls(int,int)", "int safe(int)", "int line(int,int)", "int ring(int,int)", "long earns(int,int)",
        "int stable(int)", "int choice(int)", "int gives(int,int,int)", "int plan(int,int,int)", "int count(int)",
        "long digest()"};

    private FaceTest() {
    }

    static void run() {
        Set<String> due = new TreeSet<>(Arrays.asList(CALLS));
        Set<String> got = new TreeSet<>();
        for (Method m : ColdHolds.class.getDeclaredMethods()) {
            if (!Modifier.isPrivate(m.getModifiers()) && !m.isSynthetic()) {
                Due.is(m + " is plainly public", m.getModifiers(), Modifier.PUBLIC);
                got.add(told(m));
            }
        }
        Due.is("the face has " + got, got.equals(due) ? 1 : 0, 1);
        for (Field f : ColdHolds.class.getDeclaredFields()) {
            boolean constant = Arrays.asList("NONE", "UNKNOWN", "OUTSIDE", "STATE", "FULL").contains(f.getName());
            Due.is(f + " is public", Modifier.isPublic(f.getModifiers()) ? 1 : 0, constant ? 1 : 0);
            Due.is(f + " is private", Modifier.isPrivate(f.getModifiers()) ? 1 : 0, constant ? 0 : 1);
            if (constant) {
                int plain = Modifier.PUBLIC | Modifier.STATIC | Modifier.FINAL;
                Due.is(f + " is a constant", f.getType() == int.class ? f.getModifiers() : -1, plain);
            }
        }
        Constructor<?>[] made = ColdHolds.class.getDeclaredConstructors();
        Due.is("constructors", made.length, 1);
        Due.is("the constructor is public", made[0].getModifiers(), Modifier.PUBLIC);
        Due.is("class", ColdHolds.class.getModifiers(), Modifier.PUBLIC | Modifier.FINAL);
        Due.is("NONE", ColdHolds.NONE, -1);
        Due.is("UNKNOWN", ColdHolds.UNKNOWN, -101);
        Due.is("OUTSIDE", ColdHolds.OUTSIDE, -102);
        Due.is("STATE", ColdHolds.STATE, -103);
        Due.is("FULL", ColdHolds.FULL, -104);
    }

    private static String told(Method m) {
        StringBuilder b = new StringBuilder();
        for (Class<?> c : m.getParameterTypes()) {
            b.append(b.length() == 0 ? "" : ",").append(c.getName());
        }
        return m.getReturnType().getName() + " " + m.getName() + "(" + b + ")";
    }
}
