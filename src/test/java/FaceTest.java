import java.lang.reflect.Constructor;
import java.lang.reflect.Field;
import java.lang.reflect.Member;
import java.lang.reflect.Method;
import java.lang.reflect.Modifier;
import java.util.TreeSet;

/** The public face is that of the document, and nothing besides it can be reached. */
public final class FaceTest {
    private static final String[] FACE = {
        "char dig(int,int,char) IndexOutOfBoundsException IllegalArgumentException IllegalStateException",
        "int setKind(int,int,boolean) IllegalArgumentException IllegalStateException",
        "char setEffect(int,char,int,int) IllegalArgumentException IllegalStateException",
        "int setHero(int,int,int,int) IndexOutOfBoundsException IllegalArgumentException IllegalStateException",
        "int addBeast(int,int,int,int,int) IndexOutOfBoundsException IllegalArgumentException IllegalStateException",
        "int addThing(int,int,int,int) IllegalArgumentException IndexOutOfBoundsException UnsupportedOperationException IllegalStateException",
        "int addLamp(int,int,int) IndexOutOfBoundsException IllegalArgumentException IllegalStateException",
        "int begin(int) IllegalArgumentException IllegalStateException",
        "int leave() IllegalStateException",
        "char go(int) IllegalArgumentException IllegalStateException",
        "int rest() IllegalStateException",
        "int take(int) IndexOutOfBoundsException IllegalStateException NoSuchElementException UnsupportedOperationException",
        "int drop(int) IndexOutOfBoundsException IllegalStateException NoSuchElementException",
        "int pack(int,int) IndexOutOfBoundsException IllegalStateException NoSuchElementException UnsupportedOperationException",
        "int drink(int) IndexOutOfBoundsException IllegalStateException NoSuchElementException UnsupportedOperationException",
        "int hurl(int,int) IndexOutOfBoundsException IllegalArgumentException IllegalStateException NoSuchElementException",
        "int shout(int) IllegalArgumentException IllegalStateException",
        "int pray() IllegalStateException",
        "char state()",
        "int tick()",
        "char cell(int,int) IndexOutOfBoundsException",
        "boolean see(int,int,int,int) IndexOutOfBoundsException",
        "boolean heroSees(int,int) IndexOutOfBoundsException IllegalStateException",
        "int placeOf(int) IndexOutOfBoundsException",
        "int healthOf(int) IndexOutOfBoundsException",
        "int aimOf(int) IndexOutOfBoundsException NoSuchElementException",
        "int whereIs(int) IndexOutOfBoundsException",
        "int weightOf(int) IndexOutOfBoundsException",
        "int nameOf(int) IndexOutOfBoundsException IllegalStateException",
        "boolean isReachable(int,int) IndexOutOfBoundsException IllegalStateException",
        "boolean isSame() IllegalStateException",
        "float livingShare() ArithmeticException",
        "double meanHealth() ArithmeticException",
    };

    private FaceTest() {
    }

    public static void main(String[] args) {
        Class<?> keep = DelveKeep.class;
        Check.is("the class is public and final", keep.getModifiers() & (Modifier.PUBLIC | Modifier.FINAL),
                Modifier.PUBLIC | Modifier.FINAL);
        TreeSet<String> due = new TreeSet<>();
        for (String row : FACE) {
            due.add(row);
        }
        TreeSet<String> got = new TreeSet<>();
        TreeSet<String> names = new TreeSet<>();
        for (Method method : keep.getDeclaredMethods()) {
            if (!isHidden(method)) {
                got.add(told(method));
                names.add(method.getName());
            }
        }
        Check.is("the public methods", String.join("\n", got), String.join("\n", due));
        Check.is("how many methods are public", got.size(), 33);
        Constructor<?>[] constructors = keep.getDeclaredConstructors();
        Check.is("constructors", constructors.length, 1);
        Check.is("parameters of the constructor", constructors[0].getParameterCount(), 0);
        Check.is("the constructor is public", Modifier.isPublic(constructors[0].getModifiers()), true);
        for (Field field : keep.getDeclaredFields()) {
            Check.is("field " + field.getName() + " is hidden", isHidden(field), true);
        }
        noHiddenMethodBearsAPublicName(keep, names);
        for (Class<?> inside : keep.getDeclaredClasses()) {
            Check.is(inside.getName() + " is not public", Modifier.isPublic(inside.getModifiers()), false);
            Check.is(inside.getName() + " is static", Modifier.isStatic(inside.getModifiers()), true);
            noHiddenMethodBearsAPublicName(inside, names);
        }
        Check.end();
    }

    private static void noHiddenMethodBearsAPublicName(Class<?> where, TreeSet<String> names) {
        for (Method method : where.getDeclaredMethods()) {
            boolean isFace = where == DelveKeep.class && !isHidden(method);
            Check.is(where.getName() + "." + method.getName() + " bears a public name",
                    !isFace && names.contains(method.getName()), false);
        }
    }

    private static boolean isHidden(Member member) {
        return Modifier.isPrivate(member.getModifiers()) || member.isSynthetic();
    }

    private static String told(Method method) {
        StringBuilder text = new StringBuilder();
        text.append(method.getReturnType().getSimpleName()).append(' ').append(method.getName()).append('(');
        for (Class<?> type : method.getParameterTypes()) {
            text.append(text.charAt(text.length() - 1) == '(' ? "" : ",").append(type.getSimpleName());
        }
        text.append(')');
        for (Class<?> type : method.getExceptionTypes()) {
            text.append(' ').append(type.getSimpleName());
        }
        return text.toString();
    }
}
