import java.lang.reflect.Constructor;
import java.lang.reflect.Field;
import java.lang.reflect.Method;
import java.lang.reflect.Modifier;
import java.util.ArrayList;
import java.util.Arrays;
import java.util.Collections;
import java.util.HashSet;
import java.util.List;
import java.util.Set;

/** The public face of the document, whole and with nothing beside it (LANGUAGE.md, rules 1, 5 and 11). */
public final class FaceTest {
    private static final String[] FACE = {
        "int cottage(int,boolean,int,int)", "boolean rent(int,int)", "int book(int,int,int,boolean,int)", "boolean cancel(int)",
        "boolean shut(int,int,boolean)", "int moves(int,int)", "int moved(int)", "int move(int)", "int booked(int,int)",
        "int taken(int,int)", "int team(int)", "boolean way(int,int,int)", "boolean rest(int)", "int openDay()", "int closeDay()",
        "boolean late(int,int)", "boolean state(int,int)", "int best(int)", "boolean plan()", "int row(int,int)", "int tick(int)",
        "int about(int,int)", "int job(int,int,int)", "boolean linen(int,int)", "int sets(int)", "int fewest()",
        "int feed(int,int,int,int,int)", "boolean end(int)", "int fault()", "int terms(int)", "int force(int,int)",
        "int pay(int,int,int)", "int line(int,int)", "int look(int,int,int,int)", "boolean worth(int,int)", "int lost(int,int)",
        "int kept(int)", "int complain(int,int)", "int blamed(int,int)", "int draw(int,long)", "int code(int)",
        "boolean door(int,int,int)", "int count(int)"};
    private static int wrong;

    public static void main(String[] args) {
        Class<?> year = CottageYear.class;
        due("the class is public and final", Modifier.isPublic(year.getModifiers()) && Modifier.isFinal(year.getModifiers()));
        Set<String> names = new HashSet<>();
        List<String> found = new ArrayList<>();
        for (Method method : year.getDeclaredMethods()) {
            if (Modifier.isPublic(method.getModifiers())) {
                found.add(textOf(method));
                names.add(method.getName());
                due(method + " throws what the document says",
                    method.getExceptionTypes().length == (method.getName().equals("about") ? 1 : 0));
            } else {
                due(method + " is private", Modifier.isPrivate(method.getModifiers()));
            }
        }
        List<String> face = new ArrayList<>(Arrays.asList(FACE));
        Collections.sort(face);
        Collections.sort(found);
        due("the face is the document's: " + found, face.equals(found));
        for (Constructor<?> constructor : year.getDeclaredConstructors()) {
            due("one public constructor", Modifier.isPublic(constructor.getModifiers()) && constructor.getParameterCount() == 0);
        }
        for (Field field : year.getDeclaredFields()) {
            due(field + " is private, or NONE", Modifier.isPrivate(field.getModifiers()) || field.getName().equals("NONE"));
        }
        noName(year, names, Modifier.PRIVATE);
        for (Class<?> inside : year.getDeclaredClasses()) {
            due(inside + " is private and static", Modifier.isPrivate(inside.getModifiers()) && Modifier.isStatic(inside.getModifiers()));
            noName(inside, names, 0);
            statics(inside);
        }
        statics(year);
        due("some twelve classes", year.getDeclaredClasses().length <= 12);
        System.out.println(wrong == 0 ? "face: as the document's" : "face: " + wrong + " WRONG");
        if (wrong != 0) {
            System.exit(1);
        }
    }

    private static String textOf(Method method) {
        StringBuilder text = new StringBuilder(method.getReturnType().getName() + " " + method.getName() + "(");
        for (Class<?> type : method.getParameterTypes()) {
            text.append(text.charAt(text.length() - 1) == '(' ? "" : ",").append(type.getName());
        }
        return text.append(")").toString();
    }

    private static void noName(Class<?> of, Set<String> names, int flag) {
        for (Method method : of.getDeclaredMethods()) {
            if (flag == 0 || (method.getModifiers() & flag) != 0) {
                due(method + " has no name of the face", !names.contains(method.getName()));
            }
            due(method + " takes seven at most", method.getParameterCount() <= 7);
        }
    }

    private static void statics(Class<?> of) {
        int own = 0;
        for (Field field : of.getDeclaredFields()) {
            boolean isStatic = Modifier.isStatic(field.getModifiers());
            due(field + " is final", !isStatic || Modifier.isFinal(field.getModifiers()));
            own += isStatic ? 0 : 1;
        }
        due(of + " has some twenty fields: " + own, own <= 20);
    }

    private static void due(String what, boolean holds) {
        if (!holds) {
            wrong++;
            System.out.println("not so: " + what);
        }
    }
}
