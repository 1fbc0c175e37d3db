import java.lang.reflect.Constructor;
import java.lang.reflect.Field;
import java.lang.reflect.Method;
import java.lang.reflect.Modifier;
import java.util.Arrays;
import java.util.Random;
import java.util.Set;
import java.util.TreeSet;

/** The public face of the document, and that no call throws, whatever it is given. */
public final class FaceTest {
    private static final Due due = new Due("FaceTest");
    private static final String FACE = "post6 about2 place2 wire6 told2 digit3 readings2 reading3 view2 guess1 mended1 level1 steep1 quarrel2"
        + " doubted0 value2 line2 draw8 front3 yOf3 joining0 night0 prognosis4 keep1 beside4L drift2 forecast4 verified2"
        + " sheet3 lose1 put3 cell3L copy5 tell1 hail1 as2 trace0 fault0 many1";
    private static final int[] NUMBERS = {0, 1, 2, 3, 5, 11, 12, 14, 60, 61, 99, 100, -1, -2, -9, -12, 1431655766, 10000,
        Integer.MAX_VALUE, Integer.MAX_VALUE - 1, Integer.MIN_VALUE, Integer.MIN_VALUE + 1};

    public static void main(String[] args) throws ReflectiveOperationException {
        methods();
        members();
        constants();
        for (int seed = 0; seed < 60; seed++) {
            anyNumbers(seed);
        }
        due.end();
    }

    private static void methods() {
        Set<String> found = new TreeSet<>();
        for (Method method : ChartRoom.class.getDeclaredMethods()) {
            if (Modifier.isPublic(method.getModifiers())) {
                boolean allInts = Arrays.stream(method.getParameterTypes()).allMatch(type -> type == int.class);
                due.holds("face: " + method + " takes ints", allInts);
                found.add(method.getName() + method.getParameterCount() + (method.getReturnType() == long.class ? "L" : ""));
            }
        }
        due.holds("face: the methods are " + found, found.equals(new TreeSet<>(Arrays.asList(FACE.split(" ")))));
    }

    /** Nothing but the face is to be seen, and no private method bears the name of one of it. */
    private static void members() {
        Set<String> names = new TreeSet<>();
        for (String name : FACE.split(" ")) {
            names.add(name.replaceAll("[0-9]L?$", ""));
        }
        for (Method method : ChartRoom.class.getDeclaredMethods()) {
            int modifiers = method.getModifiers();
            boolean isPrivate = Modifier.isPrivate(modifiers);
            due.holds("face: " + method + " is public or private", isPrivate || Modifier.isPublic(modifiers));
            due.holds("face: " + method + " has a name of its own", !isPrivate || !names.contains(method.getName()));
        }
        for (Class<?> part : ChartRoom.class.getDeclaredClasses()) {
            for (Method method : part.getDeclaredMethods()) {
                due.holds("face: " + method + " of a part has a name of its own", !names.contains(method.getName()));
            }
        }
        for (Field field : ChartRoom.class.getDeclaredFields()) {
            boolean isConstant = Set.of("UNKNOWN", "OUTSIDE", "STATE", "FULL", "NONE", "LOST").contains(field.getName());
            due.holds("face: " + field + " is as told", Modifier.isPublic(field.getModifiers()) == isConstant);
            due.holds("face: " + field + " is seen or private", isConstant || Modifier.isPrivate(field.getModifiers()));
            due.holds("face: " + field + " static is final", !Modifier.isStatic(field.getModifiers()) || Modifier.isFinal(field.getModifiers()));
        }
        Constructor<?>[] constructors = ChartRoom.class.getDeclaredConstructors();
        due.same("face: constructors", constructors.length, 1);
        due.holds("face: it is public", Modifier.isPublic(constructors[0].getModifiers()));
        due.holds("face: the class is final", Modifier.isFinal(ChartRoom.class.getModifiers()));
    }

    private static void constants() {
        due.same("face: UNKNOWN", ChartRoom.UNKNOWN, -1);
        due.same("face: OUTSIDE", ChartRoom.OUTSIDE, -2);
        due.same("face: STATE", ChartRoom.STATE, -3);
        due.same("face: FULL", ChartRoom.FULL, -4);
        due.same("face: NONE", ChartRoom.NONE, -9);
        due.same("face: LOST", ChartRoom.LOST, Long.MIN_VALUE);
    }

    private static void anyNumbers(int seed) throws ReflectiveOperationException {
        Random random = new Random(seed);
        ChartRoom room = seed % 3 == 0 ? new ChartRoom() : busyRoom(seed % 3);
        Method[] methods = ChartRoom.class.getDeclaredMethods();
        Arrays.sort(methods, (one, other) -> one.getName().compareTo(other.getName()));
        for (int call = 0; call < 3000; call++) {
            Method method = methods[random.nextInt(methods.length)];
            if (!Modifier.isPublic(method.getModifiers())) {
                continue;
            }
            Object[] numbers = new Object[method.getParameterCount()];
            for (int i = 0; i < numbers.length; i++) {
                numbers[i] = NUMBERS[random.nextInt(NUMBERS.length)];
            }
            try {
                method.invoke(room, numbers);
            } catch (java.lang.reflect.InvocationTargetException thrown) {
                due.holds(method.getName() + Arrays.toString(numbers) + " threw " + thrown.getCause(), false);
            }
        }
        due.same("face: it still answers", room.steep(0), -2);
    }

    /** A room in which all is full. */
    private static ChartRoom busyRoom(int kind) {
        ChartRoom room = new ChartRoom();
        for (int p = 0; p < 12; p++) {
            room.post(kind, p, 11 - p, 250 * p, p - 6, 20 - 3 * p);
            Rooms.press(room, p, p % 3 == 0 ? "....." : p % 3 == 1 ? "02530" : "9.530");
            Rooms.wire(room, p, 1, p, Rooms.WIND + "02531" + Rooms.HEAT);
        }
        for (int f = 0; f < 5; f++) {
            Rooms.draw(room, 0, 0, f, 11);
            Rooms.draw(room, 1, 0, 0, 11 - f, 5, 2, 9);
        }
        for (int f = 0; f < 8; f++) {
            Rooms.forecast(room, "n<1,s>2,w<10001,e>9,m<99999");
        }
        for (int k = 0; k < 4; k++) {
            room.keep(k);
            room.sheet(k, k % 3, 20 * k);
        }
        return room;
    }
}
