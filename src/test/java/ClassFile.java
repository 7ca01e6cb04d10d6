import java.io.DataInputStream;
import java.io.IOException;
import java.nio.file.Files;
import java.nio.file.Path;
import java.util.Set;
import java.util.TreeSet;

/** What a compiled class asks of others, read from its constants. */
final class ClassFile {
    private static final int TEXT = 1;
    private static final int LONG = 5;
    private static final int DOUBLE = 6;
    private static final int CLASS = 7;
    private static final int STRING = 8;
    private static final int FIELD = 9;
    private static final int METHOD = 10;
    private static final int INTERFACE_METHOD = 11;
    private static final int NAME_AND_TYPE = 12;
    private static final int METHOD_TYPE = 16;

    private final int[] kinds;
    private final String[] texts;
    private final int[] firsts;
    private final int[] seconds;

    ClassFile(Path file) throws IOException {
        try (DataInputStream in = new DataInputStream(Files.newInputStream(file))) {
            in.skipNBytes(8);
            int count = in.readUnsignedShort();
            kinds = new int[count];
            texts = new String[count];
            firsts = new int[count];
            seconds = new int[count];
            for (int i = 1; i < count; i++) {
                readConstant(in, i);
                if (kinds[i] == LONG || kinds[i] == DOUBLE) {
                    i++;
                }
            }
        }
    }

    private void readConstant(DataInputStream in, int i) throws IOException {
        kinds[i] = in.readUnsignedByte();
        switch (kinds[i]) {
            case TEXT -> texts[i] = in.readUTF();
            case LONG, DOUBLE -> in.skipNBytes(8);
            case CLASS, STRING, METHOD_TYPE -> firsts[i] = in.readUnsignedShort();
            case 3, 4 -> in.skipNBytes(4);
            case FIELD, METHOD, INTERFACE_METHOD, NAME_AND_TYPE -> {
                firsts[i] = in.readUnsignedShort();
                seconds[i] = in.readUnsignedShort();
            }
            default -> throw new IOException("a constant of the kind " + kinds[i] + ", as of a lambda or a record");
        }
    }

    /** Methods and fields, as java/lang/Math.max. */
    Set<String> uses() {
        Set<String> uses = new TreeSet<>();
        for (int i = 1; i < kinds.length; i++) {
            if (kinds[i] == FIELD || kinds[i] == METHOD || kinds[i] == INTERFACE_METHOD) {
                uses.add(texts[firsts[firsts[i]]] + "." + texts[firsts[seconds[i]]]);
            }
        }
        return uses;
    }
}
