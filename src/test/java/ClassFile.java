import java.io.DataInputStream;
import java.io.IOException;
import java.io.InputStream;
import java.util.Set;
import java.util.TreeSet;

/** What a compiled class calls and names, as its constants tell. */
final class ClassFile {
    private static final int MAGIC = 0xCAFEBABE;

    private final int[] tags;
    private final int[] first;
    private final int[] second;
    private final String[] texts;

    ClassFile(Class<?> type) throws IOException {
        String name = type.getName() + ".class";
        try (InputStream bytes = type.getResourceAsStream(name)) {
            if (bytes == null) {
                throw new IOException("no " + name);
            }
            DataInputStream in = new DataInputStream(bytes);
            if (in.readInt() != MAGIC) {
                throw new IOException("no class: " + name);
            }
            in.readInt();
            int most = in.readUnsignedShort();
            tags = new int[most];
            first = new int[most];
            second = new int[most];
            texts = new String[most];
            for (int i = 1; i < most; i += tags[i] == 5 || tags[i] == 6 ? 2 : 1) {
                readConstant(in, i);
            }
        }
    }

    private void readConstant(DataInputStream in, int i) throws IOException {
        tags[i] = in.readUnsignedByte();
        switch (tags[i]) {
            case 1: texts[i] = in.readUTF(); break;
            case 3: case 4: in.readInt(); break;
            case 5: case 6: in.readLong(); break;
            case 7: case 8: case 16: case 19: case 20: first[i] = in.readUnsignedShort(); break;
            case 15:
                in.readUnsignedByte();
                in.readUnsignedShort();
                break;
            default:
                first[i] = in.readUnsignedShort();
                second[i] = in.readUnsignedShort();
                break;
        }
    }

    private String nameOfClass(int i) {
        return texts[first[i]];
    }

    /** Methods of other classes, as java/lang/Math.max(II)I. */
    Set<String> calledOutside() {
        Set<String> called = new TreeSet<>();
        for (int i = 1; i < tags.length; i++) {
            if (tags[i] == 10 || tags[i] == 11) {
                String owner = nameOfClass(first[i]);
                if (!isOwn(owner)) {
                    called.add(owner + "." + texts[first[second[i]]] + texts[second[second[i]]]);
                }
            }
        }
        return called;
    }

    Set<String> classesOutside() {
        Set<String> classes = new TreeSet<>();
        for (int i = 1; i < tags.length; i++) {
            if (tags[i] == 7 && !isOwn(nameOfClass(i)) && !nameOfClass(i).startsWith("[")) {
                classes.add(nameOfClass(i));
            }
        }
        return classes;
    }

    /** Lambdas, method references and texts joined by + leave such a constant. */
    boolean isJoinedAsItRuns() {
        for (int tag : tags) {
            if (tag == 15 || tag == 16 || tag == 17 || tag == 18) {
                return true;
            }
        }
        return false;
    }

    private static boolean isOwn(String name) {
        return name.equals("GorgeRocks") || name.startsWith("GorgeRocks$");
    }
}
