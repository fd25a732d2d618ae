import java.lang.reflect.Constructor;
import java.lang.reflect.Field;
import java.lang.reflect.Method;
import java.lang.reflect.Modifier;
import java.util.Set;
import java.util.TreeSet;

/** The public face is the document's, and nothing beside it can be seen. */
public final class FaceTest {
    private static final Kit K = new Kit();

    private static final String[] FACE = {"int feed(int,int,int,int,int)", "boolean end(int)", "int bridge()",
        "int fault()", "int person(int,int) throws java.util.NoSuchElementException", "int have(int,int)",
        "int thing(int,int)", "int asks(int,int)", "int now(int)", "int go(int,int)", "int join(int,int)", "int part(int)",
        "int trade(int,int,int,int)", "int ask(int,int,int)", "int days(int)", "int undo()", "int lacks(int,int)",
        "int when(int,int)", "int teacher(int)", "int taught()", "int school()", "int schooled(int)", "int laws()",
        "int smallest()", "int offer()", "int sham(int)", "int rush()", "int crowd()", "int eased(int)", "int pass(int)",
        "int byteAt(int)", "int drawn(int,int)", "int odds(int,int,int)", "int book(int)", "int told(int)",
        "int sentence()", "int said(int)", "boolean image(int)", "boolean restore(int)", "int count(int)"};

    public static void main(String[] args) {
        Set<String> due = new TreeSet<>();
        Set<String> names = new TreeSet<>();
        for (String s : FACE) {
            due.add(s);
            names.add(s.substring(s.indexOf(' ') + 1, s.indexOf('(')));
        }
        Set<String> got = new TreeSet<>();
        for (Method m : BridgeToll.class.getDeclaredMethods()) {
            if (Modifier.isPrivate(m.getModifiers()) || m.isSynthetic()) {
                K.is("no private method is named as a public one: " + m.getName(), names.contains(m.getName()), false);
            } else {
                got.add(m.toString().replace("public ", "").replace("BridgeToll.", ""));
            }
        }
        K.is("the face's methods: " + got, got.equals(due), true);
        for (Field f : BridgeToll.class.getDeclaredFields()) {
            boolean isNone = f.getName().equals("NONE");
            K.is("private: " + f.getName(), Modifier.isPrivate(f.getModifiers()), !isNone);
            K.is("static ones are final: " + f.getName(),
                    Modifier.isStatic(f.getModifiers()) && !Modifier.isFinal(f.getModifiers()), false);
        }
        Constructor<?>[] all = BridgeToll.class.getDeclaredConstructors();
        K.is("one constructor", all.length, 1);
        K.is("a public one", Modifier.isPublic(all[0].getModifiers()), true);
        K.is("without parameters", all[0].getParameterCount(), 0);
        K.is("the class is final", Modifier.isFinal(BridgeToll.class.getModifiers()), true);
        for (Class<?> c : BridgeToll.class.getDeclaredClasses()) {
            K.is("static: " + c.getName(), Modifier.isStatic(c.getModifiers()), true);
            K.is("not public: " + c.getName(), Modifier.isPublic(c.getModifiers()), false);
            int fields = 0;
            for (Field f : c.getDeclaredFields()) {
                fields += Modifier.isStatic(f.getModifiers()) ? 0 : 1;
            }
            K.is("some twenty fields: " + c.getName(), fields <= 20, true);
        }
        K.close();
    }
}
