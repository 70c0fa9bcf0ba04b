import java.lang.reflect.Constructor;
import java.lang.reflect.Field;
import java.lang.reflect.Method;
import java.lang.reflect.Modifier;
import java.util.TreeSet;

/** The public face: every constant, constructor and method of the document, and no other member that can be seen. */
public final class FaceTest {
    private static final String[] FACE = {
        "public static final int TitleDesk.NONE",
        "public TitleDesk()",
        "public int TitleDesk.feed(int,int,int,int,int)",
        "public int TitleDesk.text(int)",
        "public int TitleDesk.fault(int)",
        "public void TitleDesk.begin()",
        "public boolean TitleDesk.cut(int,boolean)",
        "public boolean TitleDesk.change(int,int,int)",
        "public int TitleDesk.heard(int)",
        "public int TitleDesk.hand(int,boolean)",
        "public int TitleDesk.title(int,int) throws java.lang.IndexOutOfBoundsException,java.util.NoSuchElementException",
        "public int TitleDesk.pages(int,int) throws java.lang.IndexOutOfBoundsException,java.util.NoSuchElementException",
        "public int TitleDesk.price(int,int) throws java.lang.IndexOutOfBoundsException,java.util.NoSuchElementException",
        "public int TitleDesk.sign(int,int,int,int,int)",
        "public int TitleDesk.shown(int)",
        "public int TitleDesk.now(int,int,int)",
        "public int TitleDesk.count(int)",
    };

    public static void main(String[] args) {
        TreeSet<String> seen = new TreeSet<>();
        TreeSet<String> names = new TreeSet<>();
        for (Field field : TitleDesk.class.getDeclaredFields()) {
            note(seen, field.getModifiers(), field.toGenericString());
        }
        for (Constructor<?> constructor : TitleDesk.class.getDeclaredConstructors()) {
            note(seen, constructor.getModifiers(), constructor.toGenericString());
        }
        for (Method method : TitleDesk.class.getDeclaredMethods()) {
            note(seen, method.getModifiers(), method.toGenericString());
            if (!Modifier.isPrivate(method.getModifiers())) {
                names.add(method.getName());
            }
        }
        Check.due("the face", String.join("\n", seen), String.join("\n", new TreeSet<>(java.util.List.of(FACE))));
        Check.due("public and final", TitleDesk.class.getModifiers(), Modifier.PUBLIC | Modifier.FINAL);
        namesAreTheFacesAlone(TitleDesk.class, names);
        for (Class<?> inside : TitleDesk.class.getDeclaredClasses()) {
            Check.due(inside + " is static", Modifier.isStatic(inside.getModifiers()), true);
            Check.due(inside + " is public", Modifier.isPublic(inside.getModifiers()), false);
            namesAreTheFacesAlone(inside, names);
        }
        Check.end();
    }

    private static void note(TreeSet<String> seen, int modifiers, String member) {
        if (!Modifier.isPrivate(modifiers)) {
            seen.add(member);
        }
    }

    private static void namesAreTheFacesAlone(Class<?> owner, TreeSet<String> names) {
        for (Method method : owner.getDeclaredMethods()) {
            boolean ofTheFace = owner == TitleDesk.class && !Modifier.isPrivate(method.getModifiers());
            Check.due(method + " has a name of the face", !ofTheFace && names.contains(method.getName()), false);
        }
    }
}
