import java.lang.reflect.Member;
import java.lang.reflect.Modifier;
import java.util.ArrayList;
import java.util.Arrays;
import java.util.List;

/** The public face is the document's, and nothing else can be seen from outside. */
public final class FaceTest {
    private static final String[] FACE = {
        "NONE", "about(int)", "alter(int,int)", "begin(int,int)", "bits(int)", "block(int,int)", "end(int)",
        "feed(int)", "foretold(int,int,int,int)", "pack(int,boolean)", "pixel(int,int)", "place()",
        "put(int,int,int)", "unpack()"
    };

    public static void main(String[] args) {
        Check.same("NONE", IntraMill.NONE, -1);
        Check.same("the class is final", Modifier.isFinal(IntraMill.class.getModifiers()) ? 1 : 0, 1);
        Check.same("public constructors", IntraMill.class.getConstructors().length, 1);
        Check.same("all constructors", IntraMill.class.getDeclaredConstructors().length, 1);
        List<String> seen = new ArrayList<>();
        for (var field : IntraMill.class.getDeclaredFields()) {
            addIfSeen(seen, field, field.getName());
        }
        for (var method : IntraMill.class.getDeclaredMethods()) {
            String types = Arrays.toString(method.getParameterTypes()).replaceAll("[\\[\\] ]", "");
            addIfSeen(seen, method, method.getName() + "(" + types + ")");
        }
        seen.sort(null);
        Check.same("the face", seen.toString(), Arrays.toString(FACE));
        Check.done();
    }

    private static void addIfSeen(List<String> seen, Member member, String name) {
        if (!Modifier.isPrivate(member.getModifiers()) && !member.isSynthetic()) {
            seen.add(name);
        }
    }
}
