import java.lang.reflect.Array;
import java.lang.reflect.Field;
import java.lang.reflect.Modifier;
import java.util.ArrayDeque;
import java.util.Collections;
import java.util.Deque;
import java.util.IdentityHashMap;
import java.util.Set;

/** What one object takes of the room that all calls of a run live in; no call makes anything more. */
public final class RoomTest {
    private static final int MOST_OBJECTS = 200;
    private static final int MOST_ELEMENTS = 20000;

    public static void main(String[] args) throws Exception {
        Set<Object> seen = Collections.newSetFromMap(new IdentityHashMap<>());
        Deque<Object> todo = new ArrayDeque<>();
        PaidWhereMade made = new PaidWhereMade();
        todo.add(made);
        seen.add(made);
        long elements = 0;
        while (!todo.isEmpty()) {
            Object o = todo.poll();
            if (o.getClass().isArray()) {
                elements += Array.getLength(o);
                continue;
            }
            for (Field f : o.getClass().getDeclaredFields()) {
                if (Modifier.isStatic(f.getModifiers())) {
                    continue;
                }
                elements++;
                f.setAccessible(true);
                Object value = f.get(o);
                if (!f.getType().isPrimitive() && value != null && seen.add(value)) {
                    todo.add(value);
                }
            }
        }
        System.out.println(seen.size() + " objects, " + elements + " fields and elements");
        Due.is("objects are few", seen.size() <= MOST_OBJECTS, true);
        Due.is("elements are few", elements <= MOST_ELEMENTS, true);
        onlyConstructorsMake();
        Due.finish();
    }

    private static void onlyConstructorsMake() throws Exception {
        String source = java.nio.file.Files.readString(java.nio.file.Path.of("src/main/java/PaidWhereMade.java"));
        for (String line : source.split("\n")) {
            if (line.contains(" new ")) {
                boolean isField = line.matches(" {8}(private )?final .*= new .*");
                boolean isMade = line.matches(" {8}\\w+ = new \\w+\\(.*\\);");
                Due.is("made by a constructor: " + line, isField || isMade, true);
            }
        }
    }
}
