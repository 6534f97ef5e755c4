import java.io.ByteArrayInputStream;
import java.io.DataInputStream;
import java.io.IOException;
import java.nio.file.Files;
import java.nio.file.Path;
import java.util.ArrayList;
import java.util.List;

/** The fields and methods that a compiled class names, as "class.name descriptor". */
final class CalledNames {
    private static final int TEXT = 1;
    private static final int LONG = 5;
    private static final int DOUBLE = 6;
    private static final int FIELD = 9;
    private static final int METHOD = 10;
    private static final int METHOD_OF_INTERFACE = 11;
    private static final int METHOD_HANDLE = 15;

    private final int[] kinds;
    private final String[] texts;
    // Two numbers of other entries, or one and a 0.
    private final int[] first;
    private final int[] second;

    private CalledNames(int entries) {
        kinds = new int[entries];
        texts = new String[entries];
        first = new int[entries];
        second = new int[entries];
    }

    static List<String> of(Path compiled) throws IOException {
        DataInputStream in = new DataInputStream(new ByteArrayInputStream(Files.readAllBytes(compiled)));
        in.skipBytes(8);
        CalledNames pool = new CalledNames(in.readUnsignedShort());
        for (int entry = 1; entry < pool.kinds.length; entry++) {
            pool.read(entry, in);
            // These two kinds take two entries.
            entry += pool.kinds[entry] == LONG || pool.kinds[entry] == DOUBLE ? 1 : 0;
        }
        List<String> all = new ArrayList<>();
        for (int entry = 1; entry < pool.kinds.length; entry++) {
            int kind = pool.kinds[entry];
            if (kind == FIELD || kind == METHOD || kind == METHOD_OF_INTERFACE) {
                all.add(pool.nameOf(entry));
            }
        }
        return all;
    }

    private void read(int entry, DataInputStream in) throws IOException {
        kinds[entry] = in.readUnsignedByte();
        switch (kinds[entry]) {
            case TEXT -> texts[entry] = in.readUTF();
            case 3, 4 -> in.readInt();
            case LONG, DOUBLE -> in.readLong();
            case 7, 8, 16, 19, 20 -> first[entry] = in.readUnsignedShort();
            case METHOD_HANDLE -> {
                in.readUnsignedByte();
                first[entry] = in.readUnsignedShort();
            }
            default -> {
                first[entry] = in.readUnsignedShort();
                second[entry] = in.readUnsignedShort();
            }
        }
    }

    private String nameOf(int entry) {
        String owner = texts[first[first[entry]]];
        int nameAndType = second[entry];
        return owner + "." + texts[first[nameAndType]] + " " + texts[second[nameAndType]];
    }
}
