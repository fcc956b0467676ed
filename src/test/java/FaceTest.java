import java.lang.reflect.Constructor;
import java.lang.reflect.Field;
import java.lang.reflect.Member;
import java.lang.reflect.Method;
import java.lang.reflect.Modifier;
import java.util.ArrayList;
import java.util.Collections;
import java.util.List;

/** The public face: the members of the document, and no other that is not private. */
public final class FaceTest {
    private static final String[] FACE = {
        "public HandOffRecorder(int,int)",
        "public boolean HandOffRecorder.beginPut(int,int)",
        "public boolean HandOffRecorder.beginTake(int)",
        "public boolean HandOffRecorder.certain(int)",
        "public boolean HandOffRecorder.endPut(int,boolean)",
        "public boolean HandOffRecorder.endTake(int,int)",
        "public boolean HandOffRecorder.fits()",
        "public boolean HandOffRecorder.giveUp(int)",
        "public boolean HandOffRecorder.mayHold(int,int)",
        "public int HandOffRecorder.answers(int)",
        "public int HandOffRecorder.begun()",
        "public int HandOffRecorder.brokenAt()",
        "public int HandOffRecorder.events()",
        "public int HandOffRecorder.fewest()",
        "public int HandOffRecorder.most()",
        "public int HandOffRecorder.outcomes()",
        "public long HandOffRecorder.explanations()",
        "public static final int HandOffRecorder.NONE",
        "public void HandOffRecorder.renew(int,int)",
    };

    public static void main(String[] args) {
        List<String> found = new ArrayList<>();
        for (Constructor<?> made : HandOffRecorder.class.getDeclaredConstructors()) {
            addUnlessPrivate(found, made, made.toString());
        }
        for (Method method : HandOffRecorder.class.getDeclaredMethods()) {
            addUnlessPrivate(found, method, method.toString());
        }
        for (Field field : HandOffRecorder.class.getDeclaredFields()) {
            addUnlessPrivate(found, field, field.toString());
        }
        Collections.sort(found);
        boolean same = found.equals(List.of(FACE));
        if (!same) {
            System.out.println("found: " + found);
        }
        Check.due("the face", same, true);
        Check.due("the class is public and final", HandOffRecorder.class.getModifiers(),
            Modifier.PUBLIC | Modifier.FINAL);
        Check.due("NONE", HandOffRecorder.NONE, -1);
        Check.end();
    }

    private static void addUnlessPrivate(List<String> found, Member member, String text) {
        if (!Modifier.isPrivate(member.getModifiers())) {
            found.add(text);
        }
    }
}
