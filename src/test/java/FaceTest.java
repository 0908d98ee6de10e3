import java.lang.reflect.Constructor;
import java.lang.reflect.Field;
import java.lang.reflect.Method;
import java.lang.reflect.Modifier;
import java.util.TreeSet;

/** The class has the document's face and no more. */
public final class FaceTest {
    private static final Due DUE = new Due("FaceTest");
    private static final String[] FACE = {
        "int street 1", "int hat 2", "int person 2", "int wind 1", "int comes 2", "int wears 2", "int blows 2",
        "int shelters 1", "int pins 2", "int moves 2", "int hours 1", "int hatThen 3", "int personThen 2",
        "int then 2", "int taken 1", "int caught 1", "int back 2", "int lost 1", "int allWear 1", "int stand 3",
        "int wear 2", "int calm 1", "int fewestPins 2", "int shut 1", "int bestSale 1", "int race 0", "int swaps 1",
        "int whatIs 3", "int two 3", "long gusts 4", "long mean 1", "int wager 2", "int forged 2", "int judge 1",
        "int thursdays 3", "int image 0", "int restore 0", "int count 1", "int keep 4", "int row 3", "int put 3",
        "long element 2", "int copy 5", "int cost 1", "int toss 1"
    };

    public static void main(String[] args) {
        methods();
        membersAreHidden();
        DUE.end();
    }

    private static void methods() {
        TreeSet<String> want = new TreeSet<>();
        for (String line : FACE) {
            want.add(line);
        }
        TreeSet<String> got = new TreeSet<>();
        TreeSet<String> publicNames = new TreeSet<>();
        for (Method method : HatsOfTheWind.class.getDeclaredMethods()) {
            if (!Modifier.isPublic(method.getModifiers())) {
                continue;
            }
            got.add(method.getReturnType() + " " + method.getName() + " " + method.getParameterCount());
            publicNames.add(method.getName());
            for (Class<?> type : method.getParameterTypes()) {
                DUE.isTrue("int arguments of " + method.getName(), type == int.class);
            }
        }
        DUE.isTrue("the face: " + got, got.equals(want));
        for (Class<?> inside : HatsOfTheWind.class.getDeclaredClasses()) {
            for (Method method : inside.getDeclaredMethods()) {
                DUE.isTrue("own name: " + method.getName(), !publicNames.contains(method.getName()));
            }
        }
        for (Method method : HatsOfTheWind.class.getDeclaredMethods()) {
            boolean hidden = Modifier.isPrivate(method.getModifiers());
            DUE.isTrue("own name: " + method.getName(), !hidden || !publicNames.contains(method.getName()));
        }
    }

    private static void membersAreHidden() {
        DUE.isTrue("public and final", HatsOfTheWind.class.getModifiers() == (Modifier.PUBLIC | Modifier.FINAL));
        Constructor<?>[] constructors = HatsOfTheWind.class.getDeclaredConstructors();
        DUE.is("constructors", constructors.length, 1);
        DUE.is("its arguments", constructors[0].getParameterCount(), 0);
        DUE.isTrue("public", Modifier.isPublic(constructors[0].getModifiers()));
        for (Field field : HatsOfTheWind.class.getDeclaredFields()) {
            DUE.isTrue("private: " + field, Modifier.isPrivate(field.getModifiers()));
        }
        for (Method method : HatsOfTheWind.class.getDeclaredMethods()) {
            int modifiers = method.getModifiers();
            DUE.isTrue("public or private: " + method, Modifier.isPublic(modifiers) || Modifier.isPrivate(modifiers));
            DUE.isTrue("seven parameters at most: " + method, method.getParameterCount() <= 7);
        }
        for (Class<?> inside : HatsOfTheWind.class.getDeclaredClasses()) {
            DUE.isTrue("static: " + inside, Modifier.isStatic(inside.getModifiers()));
        }
    }
}
