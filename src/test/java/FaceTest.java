import java.lang.reflect.Constructor;
import java.lang.reflect.Field;
import java.lang.reflect.Member;
import java.lang.reflect.Method;
import java.lang.reflect.Modifier;
import java.util.ArrayList;
import java.util.List;
import java.util.Set;
import java.util.TreeSet;

/** The public face: every member of the document is there as it says, and no other can be seen. */
public final class FaceTest {
    private static final Checks CHECKS = new Checks();

    private static final Set<String> FACE = Set.of(
            "public static final int RevisionTree.REFUSED",
            "public static final int RevisionTree.NONE",
            "public static final int RevisionTree.FULL",
            "public static final int RevisionTree.GONE",
            "public static final int RevisionTree.CUT",
            "public RevisionTree()",
            "public int RevisionTree.put(int,int,int)",
            "public int RevisionTree.some(int,int,int,int)",
            "public int RevisionTree.remove(int)",
            "public int RevisionTree.commit(int)",
            "public int RevisionTree.forget()",
            "public int RevisionTree.open(int)",
            "public long RevisionTree.get(int,int)",
            "public long RevisionTree.next(int,int)",
            "public int RevisionTree.size(int,int)",
            "public int RevisionTree.count(int)",
            "public int RevisionTree.digest(int)");

    public static void main(String[] args) {
        CHECKS.due("REFUSED", -1, RevisionTree.REFUSED);
        CHECKS.due("NONE", -2, RevisionTree.NONE);
        CHECKS.due("FULL", -3, RevisionTree.FULL);
        CHECKS.due("GONE", -4, RevisionTree.GONE);
        CHECKS.due("CUT", -5, RevisionTree.CUT);
        CHECKS.due("public and final", Modifier.PUBLIC | Modifier.FINAL,
                RevisionTree.class.getModifiers());
        Set<String> seen = new TreeSet<>();
        for (Member member : members()) {
            if (!Modifier.isPrivate(member.getModifiers()) && !member.isSynthetic()) {
                seen.add(member.toString());
            }
        }
        for (String text : FACE) {
            CHECKS.due("there is " + text, 1, seen.contains(text) ? 1 : 0);
        }
        for (String text : seen) {
            CHECKS.due("the document has " + text, 1, FACE.contains(text) ? 1 : 0);
        }
        CHECKS.close();
    }

    private static List<Member> members() {
        List<Member> all = new ArrayList<>();
        for (Field field : RevisionTree.class.getDeclaredFields()) {
            all.add(field);
        }
        for (Constructor<?> constructor : RevisionTree.class.getDeclaredConstructors()) {
            all.add(constructor);
        }
        for (Method method : RevisionTree.class.getDeclaredMethods()) {
            all.add(method);
        }
        return all;
    }
}
