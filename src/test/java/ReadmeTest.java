import java.lang.reflect.Method;
import java.lang.reflect.Modifier;
import java.nio.file.Files;
import java.nio.file.Path;

/** The lines of README.md as they stand there, and that it names every call; run from the project's root. */
public final class ReadmeTest {
    public static void main(String[] args) throws Exception {
        String page = Files.readString(Path.of("README.md"));
        for (Method m : PaidWhereMade.class.getDeclaredMethods()) {
            if (Modifier.isPublic(m.getModifiers())) {
                Due.is("README.md names " + m.getName(), page.contains("`" + m.getName() + "`"), true);
            }
        }
        townOfThePage();
        Due.finish();
    }

    private static void townOfThePage() {
        PaidWhereMade town = new PaidWhereMade();
        int square = town.spot(0);
        int mill = town.spot(3);
        Due.is("square", square, 0);
        Due.is("mill", mill, 1);
        Due.is("way", town.way(square, mill, 12), true);
        int ann = town.person(square, 100, 40);
        int bob = town.person(mill, 50, 70);
        Due.is("ann", ann, 0);
        Due.is("bob", bob, 1);
        int debt = town.debt(ann, bob, 30, mill);
        Due.is("goal", town.goal(ann, mill), true);
        Due.is("sunday", town.sunday(), 1);
        Due.is("by coin", town.owed(debt, 6), 1);
        Due.is("coins of ann", town.of(ann, 1), 67);
        Due.is("miles", town.look(5), 24);
        Due.is("bytes", town.feed(0x62617220, 0x7768656e, 0x20636f69, 0x6e73203e, 0x2032303b), 20);
        Due.is("lines", town.text(), 1);
        Due.is("barred", town.owed(town.debt(bob, ann, 21, mill), 7), 0);
        Due.is("not barred", town.owed(town.debt(bob, ann, 20, mill), 7), 1);
    }
}
