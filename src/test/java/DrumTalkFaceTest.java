import java.lang.reflect.Constructor;
import java.lang.reflect.Field;
import java.lang.reflect.Member;
import java.lang.reflect.Method;
import java.lang.reflect.Modifier;
import java.util.Set;
import java.util.TreeSet;

/** The document's 'The public face': the class, its constructor, its methods and the exceptions of each; no more. */
public final class DrumTalkFaceTest extends Checks {
    private static final String INDEX = " throws java.lang.IndexOutOfBoundsException";
    private static final String ARGUMENT = "java.lang.IllegalArgumentException";
    private static final String STATE = "java.lang.IllegalStateException";

    private static final Set<String> METHODS = Set.of(
        "public int DrumTalk.found(int,int,int) throws " + ARGUMENT + "," + STATE,
        "public int DrumTalk.setDrum(int,int)" + INDEX + "," + ARGUMENT,
        "public boolean DrumTalk.setCliff(int,boolean)" + INDEX,
        "public int DrumTalk.setAwake(int,int,int)" + INDEX + "," + ARGUMENT,
        "public int DrumTalk.phrase(int) throws " + ARGUMENT + "," + STATE,
        "public int DrumTalk.tell(int,int)" + INDEX + "," + STATE,
        "public int DrumTalk.village(int,int)" + INDEX,
        "public int DrumTalk.queue(int,int)" + INDEX,
        "public int DrumTalk.knows(int,int)" + INDEX,
        "public int DrumTalk.sounds(int)" + INDEX,
        "public int DrumTalk.count(int)" + INDEX,
        "public int DrumTalk.way(int,int)" + INDEX,
        "public int DrumTalk.pass(int) throws " + ARGUMENT,
        "public int DrumTalk.reaches(int,int)" + INDEX,
        "public int DrumTalk.best(int,int)" + INDEX,
        "public int DrumTalk.larger(int) throws " + ARGUMENT,
        "public double DrumTalk.known()",
        "public long DrumTalk.digest()");

    public static void main(String[] args) {
        test(DrumTalkFaceTest::theClass);
        test(DrumTalkFaceTest::theConstructor);
        test(DrumTalkFaceTest::theMethods);
        test(DrumTalkFaceTest::nothingElseIsSeen);
        test(DrumTalkFaceTest::noPrivateMethodHasAPublicName);
        test(DrumTalkFaceTest::theClassesInside);
        end();
    }

    private static void theClass() {
        part("The public face: public final class DrumTalk");
        due("modifiers", DrumTalk.class.getModifiers(), Modifier.PUBLIC | Modifier.FINAL);
        due("superclass is Object", DrumTalk.class.getSuperclass() == Object.class, true);
        due("interfaces", DrumTalk.class.getInterfaces().length, 0);
        due("package is none", DrumTalk.class.getPackageName().isEmpty(), true);
    }

    private static void theConstructor() {
        part("The public face: public DrumTalk()");
        Constructor<?>[] constructors = DrumTalk.class.getDeclaredConstructors();
        due("constructors", constructors.length, 1);
        due("it is told as public DrumTalk()", constructors[0].toString().equals("public DrumTalk()"), true);
    }

    private static void theMethods() {
        part("The public face: the methods, and the exceptions of each");
        Set<String> there = new TreeSet<>();
        for (Method method : DrumTalk.class.getDeclaredMethods()) {
            if (Modifier.isPublic(method.getModifiers())) {
                there.add(method.toString());
            }
        }
        for (String method : METHODS) {
            due(method + " is there", there.contains(method), true);
        }
        for (String method : there) {
            due(method + " is in the document", METHODS.contains(method), true);
        }
    }

    private static void nothingElseIsSeen() {
        part("The public face: no other public, protected or package-visible member");
        for (Method method : DrumTalk.class.getDeclaredMethods()) {
            if (!Modifier.isPublic(method.getModifiers())) {
                isPrivate(method);
            }
        }
        for (Field field : DrumTalk.class.getDeclaredFields()) {
            isPrivate(field);
        }
    }

    private static void isPrivate(Member member) {
        due(member + " is private", Modifier.isPrivate(member.getModifiers()) || member.isSynthetic(), true);
    }

    private static void noPrivateMethodHasAPublicName() {
        part("LANGUAGE.md 1: no private method bears the name of a public one");
        Set<String> names = new TreeSet<>();
        for (Method method : DrumTalk.class.getDeclaredMethods()) {
            due(method.getName() + " is there once", names.add(method.getName()), true);
        }
    }

    private static void theClassesInside() {
        part("LANGUAGE.md 1, 5: classes inside are static and not public, static fields are final");
        for (Class<?> inside : DrumTalk.class.getDeclaredClasses()) {
            int modifiers = inside.getModifiers();
            due(inside + " is static", Modifier.isStatic(modifiers), true);
            due(inside + " is public or protected", Modifier.isPublic(modifiers) || Modifier.isProtected(modifiers), false);
            staticFieldsAreFinal(inside);
        }
        staticFieldsAreFinal(DrumTalk.class);
    }

    private static void staticFieldsAreFinal(Class<?> owner) {
        for (Field field : owner.getDeclaredFields()) {
            if (Modifier.isStatic(field.getModifiers())) {
                due(field + " is final", Modifier.isFinal(field.getModifiers()), true);
            }
        }
    }
}
