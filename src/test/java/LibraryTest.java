import java.io.DataInputStream;
import java.io.IOException;
import java.io.InputStream;
import java.util.ArrayList;
import java.util.HashMap;
import java.util.List;
import java.util.Map;

/** Rule 4 of LANGUAGE.md: of the library, the compiled classes call only what stands there. */
final class LibraryTest {
    private static final int TEXT = 1;
    private static final int LONG = 5;
    private static final int DOUBLE = 6;
    private static final int CLASS = 7;
    private static final int METHOD = 10;
    private static final int INTERFACE_METHOD = 11;
    private static final int NAME_AND_TYPE = 12;
    private static final int HANDLE = 15;
    private static final Map<String, String> LISTED = new HashMap<>();

    static {
        LISTED.put("Object", "<init>|clone");
        LISTED.put("String", "<init>|length|charAt|isEmpty|equals|indexOf|substring|toCharArray");
        LISTED.put("StringBuilder",
            "<init>|append|charAt|setCharAt|setLength|deleteCharAt|reverse|length|toString");
        LISTED.put("ArrayList", "<init>|add|get|set|remove|size|isEmpty|clear|iterator");
        LISTED.put("List", "add|get|set|remove|size|isEmpty|clear|iterator|of");
        LISTED.put("Iterator", "hasNext|next");
        LISTED.put("Enum", "<init>|ordinal|valueOf");
        LISTED.put("Record", "<init>");
        LISTED.put("System", "arraycopy");
        LISTED.put("Arrays", "copyOf|copyOfRange|fill");
        LISTED.put("Integer", "(?!.*Exact$).*");
        LISTED.put("Long", "(?!.*Exact$).*");
        LISTED.put("Math", "(?!.*Exact$).*");
        for (String name : new String[] {"IllegalStateException", "IllegalArgumentException", "ArithmeticException",
            "IndexOutOfBoundsException", "UnsupportedOperationException", "NoSuchElementException",
            "RuntimeException"}) {
            LISTED.put(name, "<init>");
        }
    }

    private LibraryTest() {
    }

    public static void main(String[] args) throws IOException {
        looksAt(RowCode.class);
        for (Class<?> inside : RowCode.class.getDeclaredClasses()) {
            looksAt(inside);
        }
        Due.finish();
    }

    private static void looksAt(Class<?> one) throws IOException {
        for (String[] called : calls(one)) {
            String owner = called[0];
            // The compiler itself puts ObjectMethods into a record, which rule 2 lets stand.
            boolean isOwn = owner.equals("RowCode") || owner.startsWith("RowCode$") || owner.startsWith("[")
                || owner.equals("java/lang/runtime/ObjectMethods");
            String simple = owner.substring(owner.lastIndexOf('/') + 1);
            boolean isOfLibrary = owner.matches("java/(lang|util)/\\w+");
            Due.yes("rule 4 lists " + owner + "." + called[1] + " of " + one, isOwn
                || isOfLibrary && called[1].matches(LISTED.getOrDefault(simple, "(?!)")));
        }
    }

    /** Each method that a class names in the table of its file: whose it is, and its name. */
    private static List<String[]> calls(Class<?> one) throws IOException {
        try (InputStream file = one.getResourceAsStream(one.getName() + ".class");
             DataInputStream in = new DataInputStream(file)) {
            in.skipBytes(8);
            int count = in.readUnsignedShort();
            int[] tags = new int[count];
            int[][] parts = new int[count][2];
            String[] texts = new String[count];
            for (int i = 1; i < count; i++) {
                tags[i] = in.readUnsignedByte();
                if (tags[i] == TEXT) {
                    texts[i] = in.readUTF();
                } else if (tags[i] == LONG || tags[i] == DOUBLE) {
                    in.skipBytes(8);
                    i++;
                } else if (tags[i] == HANDLE) {
                    in.skipBytes(3);
                } else {
                    parts[i][0] = in.readUnsignedShort();
                    parts[i][1] = isOfTwo(tags[i]) ? in.readUnsignedShort() : 0;
                }
            }
            List<String[]> calls = new ArrayList<>();
            for (int i = 1; i < count; i++) {
                if (tags[i] == METHOD || tags[i] == INTERFACE_METHOD) {
                    calls.add(new String[] {texts[parts[parts[i][0]][0]], texts[parts[parts[i][1]][0]]});
                }
            }
            return calls;
        }
    }

    /** Whether an entry of the table has four bytes, and not two. */
    private static boolean isOfTwo(int tag) {
        return tag < CLASS || tag > CLASS + 1 && tag <= NAME_AND_TYPE || tag == 17 || tag == 18;
    }
}
