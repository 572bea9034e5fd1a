import java.io.DataInputStream;
import java.io.IOException;
import java.util.Set;
import java.util.TreeSet;

/** What the compiled classes call of the library, read from their tables: only what the rules of the language list. */
public final class LibraryTest {
    private static final int UTF8 = 1;
    private static final int INTEGER = 3;
    private static final int FLOAT = 4;
    private static final int LONG = 5;
    private static final int DOUBLE = 6;
    private static final int FIELD = 9;
    private static final int METHOD = 10;
    private static final int INTERFACE_METHOD = 11;
    private static final int NAME_AND_TYPE = 12;
    private static final int HANDLE = 15;
    private static final int DYNAMIC = 17;
    private static final int INVOKE_DYNAMIC = 18;
    private static final Set<String> LISTED = Set.of(
        "java/lang/Object.<init>", "java/lang/String.length", "java/lang/String.charAt", "java/lang/System.arraycopy",
        "java/util/Arrays.fill", "java/lang/Integer.bitCount", "java/lang/Math.min", "java/lang/Math.max",
        "java/lang/Math.abs");

    public static void main(String[] args) throws IOException {
        check(PaidWhereMade.class);
        for (Class<?> inside : PaidWhereMade.class.getDeclaredClasses()) {
            check(inside);
        }
        Due.finish();
    }

    private static void check(Class<?> c) throws IOException {
        for (String called : calledBy(c)) {
            boolean isOwn = called.startsWith("PaidWhereMade");
            Due.is(c.getName() + " calls " + called, isOwn || LISTED.contains(called), true);
        }
    }

    /** Fields and methods of all classes that a class file names; a call that is made up at run time is told as that. */
    private static Set<String> calledBy(Class<?> c) throws IOException {
        try (DataInputStream in = new DataInputStream(c.getResourceAsStream(c.getName() + ".class"))) {
            in.readLong();
            int count = in.readUnsignedShort();
            String[] texts = new String[count];
            int[] kinds = new int[count];
            int[] first = new int[count];
            int[] second = new int[count];
            for (int i = 1; i < count; i++) {
                kinds[i] = in.readUnsignedByte();
                readEntry(in, i, kinds[i], texts, first, second);
                i += kinds[i] == LONG || kinds[i] == DOUBLE ? 1 : 0;
            }
            Set<String> called = new TreeSet<>();
            for (int i = 1; i < count; i++) {
                if (kinds[i] == FIELD || kinds[i] == METHOD || kinds[i] == INTERFACE_METHOD) {
                    called.add(texts[first[first[i]]] + "." + texts[first[second[i]]]);
                } else if (kinds[i] == DYNAMIC || kinds[i] == INVOKE_DYNAMIC) {
                    called.add("a call made up at run time");
                }
            }
            return called;
        }
    }

    private static void readEntry(DataInputStream in, int i, int kind, String[] texts, int[] first, int[] second)
        throws IOException {
        switch (kind) {
            case UTF8:
                texts[i] = in.readUTF();
                break;
            case LONG:
            case DOUBLE:
                in.readLong();
                break;
            case FIELD:
            case METHOD:
            case INTERFACE_METHOD:
            case NAME_AND_TYPE:
            case DYNAMIC:
            case INVOKE_DYNAMIC:
            case INTEGER:
            case FLOAT:
                first[i] = in.readUnsignedShort();
                second[i] = in.readUnsignedShort();
                break;
            case HANDLE:
                in.readUnsignedByte();
                in.readUnsignedShort();
                break;
            default:
                first[i] = in.readUnsignedShort();
        }
    }
}
