import java.io.DataInputStream;
import java.io.IOException;
import java.io.InputStream;
import java.util.ArrayList;
import java.util.List;
import java.util.Set;
import java.util.TreeSet;

/** LANGUAGE.md, 4, looked at in what javac made: each member that is used of the Java library stands in its list. */
public final class LibraryTest {
    private static final Check CHECK = new Check("LibraryTest");
    private static final int TEXT = 1, INT = 3, FLOAT = 4, LONG = 5, DOUBLE = 6, CLASS = 7, STRING = 8, FIELD = 9, METHOD = 10,
        OF_INTERFACE = 11, NAME_AND_TYPE = 12, HANDLE = 15, TYPE = 16, DYNAMIC = 17, INVOKE_DYNAMIC = 18;
    private static final String[] LISTED = {
        "Object <init>",
        "String length charAt isEmpty equals indexOf substring toCharArray <init>",
        "StringBuilder <init> append charAt setCharAt setLength deleteCharAt reverse length toString",
        "ArrayList <init> add get set remove size isEmpty clear iterator",
        "List of add get set remove size isEmpty clear iterator",
        "Iterator hasNext next",
        "Integer valueOf intValue compare max min sum signum bitCount highestOneBit lowestOneBit numberOfLeadingZeros numberOfTrailingZeros",
        "Long compare max min sum signum bitCount highestOneBit lowestOneBit numberOfLeadingZeros numberOfTrailingZeros",
        "Math max min abs floorDiv floorMod",
        "System arraycopy",
        "Arrays copyOf copyOfRange fill",
    };

    private LibraryTest() {
    }

    public static void main(String[] args) throws IOException {
        List<Class<?>> all = new ArrayList<>(List.of(StepCalls.class.getDeclaredClasses()));
        all.add(StepCalls.class);
        Set<String> listed = listed();
        for (Class<?> c : all) {
            for (String member : members(c)) {
                CHECK.due("4: " + c.getName() + " uses " + member, listed.contains(member) ? 1 : 0, 1);
            }
        }
        CHECK.finish();
    }

    private static Set<String> listed() {
        Set<String> all = new TreeSet<>();
        for (String line : LISTED) {
            String[] words = line.split(" ");
            for (int i = 1; i < words.length; i++) {
                all.add(words[0] + "." + words[i]);
            }
        }
        return all;
    }

    /** Members of classes that are none of the program, told as "String.length". */
    private static Set<String> members(Class<?> c) throws IOException {
        Set<String> found = new TreeSet<>();
        try (InputStream bytes = c.getResourceAsStream(c.getName() + ".class"); DataInputStream in = new DataInputStream(bytes)) {
            in.readLong();
            int size = in.readUnsignedShort();
            int[] kinds = new int[size];
            int[] firsts = new int[size];
            int[] seconds = new int[size];
            String[] texts = new String[size];
            for (int i = 1; i < size; i++) {
                kinds[i] = in.readUnsignedByte();
                readConstant(in, i, kinds[i], firsts, seconds, texts);
                // these two take two places
                i += kinds[i] == LONG || kinds[i] == DOUBLE ? 1 : 0;
            }
            for (int i = 1; i < size; i++) {
                if (kinds[i] == INVOKE_DYNAMIC || kinds[i] == DYNAMIC || kinds[i] == HANDLE) {
                    found.add("what is made as it runs (a lambda, a text joined by +)");
                } else if (kinds[i] == FIELD || kinds[i] == METHOD || kinds[i] == OF_INTERFACE) {
                    String owner = texts[firsts[firsts[i]]];
                    String name = texts[firsts[seconds[i]]];
                    if (!owner.startsWith("StepCalls") && !isCloneOfArray(owner, name)) {
                        found.add(owner.substring(owner.lastIndexOf('/') + 1) + "." + name);
                    }
                }
            }
        }
        return found;
    }

    private static boolean isCloneOfArray(String owner, String name) {
        return owner.startsWith("[") && name.equals("clone");
    }

    private static void readConstant(DataInputStream in, int i, int kind, int[] firsts, int[] seconds, String[] texts) throws IOException {
        switch (kind) {
            case TEXT -> texts[i] = in.readUTF();
            case INT, FLOAT -> in.readInt();
            case LONG, DOUBLE -> in.readLong();
            case CLASS, STRING, TYPE -> firsts[i] = in.readUnsignedShort();
            case FIELD, METHOD, OF_INTERFACE, NAME_AND_TYPE, DYNAMIC, INVOKE_DYNAMIC -> {
                firsts[i] = in.readUnsignedShort();
                seconds[i] = in.readUnsignedShort();
            }
            case HANDLE -> {
                in.readUnsignedByte();
                in.readUnsignedShort();
            }
            default -> throw new IOException("a constant of kind " + kind);
        }
    }
}
