import java.lang.reflect.Constructor;
import java.lang.reflect.Field;
import java.lang.reflect.Method;
import java.lang.reflect.Modifier;
import java.util.Arrays;
import java.util.Random;
import java.util.TreeSet;

/** The public face, what LANGUAGE.md asks of classes, and that no call ever throws. */
public final class FaceTest {
    private static final String[] FACE = {
        "int feed(int,int,int,int,int)", "boolean end(int)", "int load()", "int fault(int)", "int look(int)",
        "int def(int,int)", "int print(int,int)", "boolean same(int,int,int,int)", "int out(int)", "boolean begin()",
        "int ready()", "int which(int)", "int step(int)", "int run(int,int)", "int process(int,int)",
        "int channel(int,int)", "int message(int,int,int)", "int said(int,int)"};

    public static void main(String[] args) {
        face();
        classesInside();
        wildCalls();
        Desk.finish();
    }

    private static String told(Method method) {
        StringBuilder text = new StringBuilder();
        for (Class<?> type : method.getParameterTypes()) {
            text.append(text.length() == 0 ? "" : ",").append(type.getName());
        }
        return method.getReturnType().getName() + " " + method.getName() + "(" + text + ")";
    }

    private static void face() {
        TreeSet<String> open = new TreeSet<>();
        for (Method method : TalkHouse.class.getDeclaredMethods()) {
            if (Modifier.isPublic(method.getModifiers())) {
                open.add(told(method));
            } else {
                Desk.due(method + " is private", Modifier.isPrivate(method.getModifiers()), true);
            }
        }
        Desk.due("the methods", open.toString(), new TreeSet<>(Arrays.asList(FACE)).toString());
        Desk.due("the class", TalkHouse.class.getModifiers(), Modifier.PUBLIC | Modifier.FINAL);
        for (Field field : TalkHouse.class.getDeclaredFields()) {
            boolean isOpen = field.getName().equals("NONE");
            Desk.due(field + " is public", Modifier.isPublic(field.getModifiers()), isOpen);
            Desk.due(field + " is private", Modifier.isPrivate(field.getModifiers()), !isOpen);
        }
        Constructor<?>[] makers = TalkHouse.class.getDeclaredConstructors();
        Desk.due("constructors", makers.length, 1);
        Desk.due("its parameters", makers[0].getParameterCount(), 0);
    }

    private static void classesInside() {
        TreeSet<String> faceNames = new TreeSet<>();
        for (String method : FACE) {
            faceNames.add(method.substring(method.indexOf(' ') + 1, method.indexOf('(')));
        }
        Class<?>[] inside = TalkHouse.class.getDeclaredClasses();
        Desk.due("not more than twelve classes", inside.length <= 11, true);
        for (Class<?> one : inside) {
            Desk.due(one + " is static", Modifier.isStatic(one.getModifiers()), true);
            int fields = 0;
            for (Field field : one.getDeclaredFields()) {
                fields += Modifier.isStatic(field.getModifiers()) ? 0 : 1;
            }
            Desk.due(one + " has few fields", fields <= 20, true);
            for (Method method : one.getDeclaredMethods()) {
                Desk.due(method + " bears no public name", faceNames.contains(method.getName()), false);
                Desk.due(method + " takes few", method.getParameterCount() <= 7, true);
            }
        }
    }

    private static int wild(Random chance) {
        switch (chance.nextInt(8)) {
            case 0:
                return chance.nextInt();
            case 1:
                return 1 << chance.nextInt(32);
            case 2:
                return -1 - chance.nextInt(3);
            case 3:
                return 95 + chance.nextInt(12);
            case 4:
                return chance.nextInt(700);
            default:
                return chance.nextInt(6);
        }
    }

    private static void wildCalls() {
        Random chance = new Random(17);
        for (int i = 0; i < 400; i++) {
            TalkHouse x = new TalkHouse();
            String text = Author.write(chance);
            for (int k = 0; k < 512; k++) {
                if (chance.nextInt(40) == 0) {
                    Desk.load(x, chance.nextInt(3) == 0 ? text : Author.spoil(text, chance));
                }
                call(x, chance);
            }
        }
    }

    private static void call(TalkHouse x, Random chance) {
        int a = wild(chance);
        int b = wild(chance);
        int c = wild(chance);
        switch (chance.nextInt(20)) {
            case 0:
                x.feed(a, b, c, wild(chance), wild(chance));
                break;
            case 1:
                x.end(a);
                break;
            case 2:
                if (chance.nextInt(5) == 0) {
                    x.load();
                }
                break;
            case 3:
                x.fault(a);
                break;
            case 4:
                x.look(a);
                break;
            case 5:
                x.def(a, b);
                break;
            case 6:
                x.print(a, b);
                break;
            case 7:
                x.same(a, b, c, wild(chance));
                break;
            case 8:
                x.out(a);
                break;
            case 9:
                x.begin();
                break;
            case 10:
                x.which(a);
                break;
            case 11:
                x.run(a, b);
                break;
            case 12:
                x.process(a, b);
                break;
            case 13:
                x.channel(a, b);
                break;
            case 14:
                x.message(a, b, c);
                break;
            case 15:
                x.said(a, b);
                break;
            default:
                Desk.due("ready is not below 0", x.ready() >= 0, true);
                x.step(a);
                break;
        }
    }
}
