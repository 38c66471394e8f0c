import java.lang.reflect.Constructor;
import java.lang.reflect.Field;
import java.lang.reflect.Method;
import java.lang.reflect.Modifier;
import java.util.Arrays;
import java.util.TreeSet;

/** The public face, to the letter, and the four constants. */
public final class FaceTest {
    private static final String FACE = "row3 set3 copy5 drop1 feed1 fund0 fault0 undo0 give3 back1 pot1 become2 one2"
        + " gift2 nameOf1 root1 sum2 overlap2 term3 project2 stand1 paidIf4 best3 least3 missed2 ring1 halves5 sets2"
        + " byTurns4 who4 likely4 drawn3 image1 restore1 kind1 as2 ask2 trace1 count1 status0";

    private FaceTest() {
    }

    public static void main(String[] args) {
        TreeSet<String> face = new TreeSet<>();
        TreeSet<String> names = new TreeSet<>();
        for (Method m : MatchFund.class.getDeclaredMethods()) {
            if (Modifier.isPublic(m.getModifiers())) {
                face.add(m.getName() + m.getParameterCount());
                names.add(m.getName());
                boolean ints = Arrays.stream(m.getParameterTypes()).allMatch(t -> t == int.class);
                Class<?> answer = m.getName().equals("likely") ? long.class : int.class;
                Check.due(m.getName() + " takes and answers as told", ints && m.getReturnType() == answer ? 1 : 0, 1);
            }
        }
        TreeSet<String> told = new TreeSet<>(Arrays.asList(FACE.split(" ")));
        Check.due("the methods: " + face, face.equals(told) ? 1 : 0, 1);
        for (Method m : MatchFund.class.getDeclaredMethods()) {
            boolean isPublic = Modifier.isPublic(m.getModifiers());
            boolean isPrivate = Modifier.isPrivate(m.getModifiers());
            Check.due(m.getName() + " is public or private", isPublic || isPrivate ? 1 : 0, 1);
            Check.due(m.getName() + " bears its own name", isPrivate && names.contains(m.getName()) ? 0 : 1, 1);
        }
        fields();
        Constructor<?>[] makers = MatchFund.class.getDeclaredConstructors();
        Check.due("one constructor", makers.length, 1);
        Check.due("public", Modifier.isPublic(makers[0].getModifiers()) && makers[0].getParameterCount() == 0 ? 1 : 0, 1);
        Check.due("final", Modifier.isFinal(MatchFund.class.getModifiers()) ? 1 : 0, 1);
        Check.due("NONE", MatchFund.NONE, -1000000);
        Check.due("BAD", MatchFund.BAD, -1000001);
        Check.due("STATE", MatchFund.STATE, -1000002);
        Check.due("FULL", MatchFund.FULL, -1000003);
        Check.end("FaceTest");
    }

    private static void fields() {
        for (Field f : MatchFund.class.getDeclaredFields()) {
            boolean told = "NONE BAD STATE FULL".contains(f.getName());
            boolean fits = told ? Modifier.isPublic(f.getModifiers()) : Modifier.isPrivate(f.getModifiers());
            Check.due("field " + f.getName(), fits ? 1 : 0, 1);
        }
    }
}
