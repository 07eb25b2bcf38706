import java.lang.reflect.Constructor;
import java.lang.reflect.Field;
import java.lang.reflect.Method;
import java.lang.reflect.Modifier;
import java.util.ArrayList;
import java.util.Collections;
import java.util.List;

/** The public face: all that the document lists, and nothing besides it. */
final class FaceTests {
    private static final String[] METHODS = {
        "void wall(int)", "boolean setClosed(int,boolean)", "int distance(int,int)", "int addStation(int)",
        "int addTray(int,int,int)", "int fill(int,int)", "int addOrder()", "int addLine(int,int,int)",
        "int claim(int,int,int)", "int giveUp(int,int)", "int left(int,int)", "int claimant(int,int)",
        "int amount(int)", "int trayCell(int)", "int addRobot(int,int)", "int die(int)", "int repair(int)",
        "int robotIn(int)", "int cellOf(int)", "int state(int)", "int trayOf(int)", "int asked(int)",
        "int tick(int)", "int time()", "int steps()", "int rings()", "int yields()", "int knots()",
        "int stock(int)", "int stockByPicks(int)", "int picks()", "int pickedFrom(int)", "int pickedFor(int)",
        "int pickedIn(int)"
    };

    private FaceTests() {
    }

    static void run() throws Exception {
        constants();
        methods();
        constructors();
        Check.due("the class is public and final",
                ShelfSwarm.class.getModifiers() == (Modifier.PUBLIC | Modifier.FINAL), true);
    }

    private static void constants() throws Exception {
        String[] names = {"NONE", "IDLE", "FETCHING", "BRINGING", "SERVING", "RETURNING", "DEAD"};
        for (int i = 0; i < names.length; i++) {
            Field field = ShelfSwarm.class.getField(names[i]);
            Check.due(names[i], field.getInt(null), i - 1);
            Check.due(names[i] + " is final", Modifier.isFinal(field.getModifiers()), true);
        }
        int open = 0;
        for (Field field : ShelfSwarm.class.getDeclaredFields()) {
            open += Modifier.isPrivate(field.getModifiers()) ? 0 : 1;
        }
        Check.due("fields that are not private", open, names.length);
    }

    private static void methods() {
        List<String> due = new ArrayList<>(List.of(METHODS));
        List<String> got = new ArrayList<>();
        for (Method method : ShelfSwarm.class.getDeclaredMethods()) {
            if (!Modifier.isPrivate(method.getModifiers()) && !method.isSynthetic()) {
                Check.due(method.getName() + " is public", Modifier.isPublic(method.getModifiers()), true);
                got.add(told(method));
            }
        }
        Collections.sort(due);
        Collections.sort(got);
        Check.due("the methods", String.join("; ", got), String.join("; ", due));
    }

    private static String told(Method method) {
        List<String> parameters = new ArrayList<>();
        for (Class<?> type : method.getParameterTypes()) {
            parameters.add(type.getSimpleName());
        }
        return method.getReturnType().getSimpleName() + " " + method.getName() + "(" + String.join(",", parameters) + ")";
    }

    private static void constructors() {
        Constructor<?>[] constructors = ShelfSwarm.class.getDeclaredConstructors();
        Check.due("constructors", constructors.length, 1);
        Check.due("its parameters", constructors[0].getParameterCount(), 0);
        Check.due("it is public", Modifier.isPublic(constructors[0].getModifiers()), true);
    }
}
