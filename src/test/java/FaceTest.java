import java.lang.reflect.Constructor;
import java.lang.reflect.Field;
import java.lang.reflect.Member;
import java.lang.reflect.Method;
import java.lang.reflect.Modifier;
import java.util.ArrayList;
import java.util.List;

@Part(name = "The public face", from = "## The public face ```java", to = "## Terms")
public final class FaceTest {
    private static final String[] FACE = {
        "public int about(int) throws IllegalArgumentException",
        "public int alter(int,int) throws IllegalArgumentException",
        "public int bits(int)",
        "public int block(int,int) throws IllegalArgumentException",
        "public int feed(int) throws IllegalStateException",
        "public int foretold(int,int,int,int) throws IllegalArgumentException",
        "public int pack(int,boolean) throws IllegalArgumentException",
        "public int pixel(int,int)",
        "public int place()",
        "public int unpack()",
        "public static final int NONE",
        "public void begin(int,int) throws IllegalArgumentException",
        "public void end(int) throws IllegalArgumentException",
        "public void put(int,int,int) throws IllegalArgumentException"
    };

    public static void main(String[] args) {
        Check.run(FaceTest.class);
    }

    @Says("public final class IntraMill {")
    static void theClassIsPublicAndFinal() {
        Check.same("public", Modifier.isPublic(IntraMill.class.getModifiers()));
        Check.same("final", Modifier.isFinal(IntraMill.class.getModifiers()));
    }

    @Says("public static final int NONE = -1;")
    static void noneIsBelowZero() {
        Check.same("NONE", IntraMill.NONE, -1);
    }

    @Says("public IntraMill();")
    static void thereIsOneConstructor() {
        Constructor<?>[] all = IntraMill.class.getDeclaredConstructors();
        Check.same("constructors", all.length, 1);
        Check.same("public", Modifier.isPublic(all[0].getModifiers()));
        Check.same("parameters", all[0].getParameterCount(), 0);
    }

    @Says("public void begin(int across, int down) throws IllegalArgumentException; "
            + "public void put(int block, int y, int four) throws IllegalArgumentException; "
            + "public int pixel(int x, int y); "
            + "public int pack(int qp, boolean smooth) throws IllegalArgumentException; "
            + "public int unpack(); public int place(); "
            + "public int feed(int four) throws IllegalStateException; "
            + "public void end(int n) throws IllegalArgumentException; "
            + "public int alter(int i, int b) throws IllegalArgumentException; "
            + "public int bits(int i); "
            + "public int block(int block, int what) throws IllegalArgumentException; "
            + "public int foretold(int block, int mode, int x, int y) throws IllegalArgumentException; "
            + "public int about(int what) throws IllegalArgumentException; }")
    static void thereIsThisAndNoMore() {
        List<String> seen = new ArrayList<>();
        for (Field field : IntraMill.class.getDeclaredFields()) {
            addIfSeen(seen, field);
        }
        for (Method method : IntraMill.class.getDeclaredMethods()) {
            addIfSeen(seen, method);
        }
        seen.sort(null);
        Check.same("the face", String.join("\n", seen), String.join("\n", FACE));
    }

    private static void addIfSeen(List<String> seen, Member member) {
        if (!Modifier.isPrivate(member.getModifiers()) && !member.isSynthetic()) {
            seen.add(member.toString().replace("IntraMill.", "").replace("java.lang.", ""));
        }
    }
}
