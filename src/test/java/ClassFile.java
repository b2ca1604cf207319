import java.io.DataInputStream;
import java.io.IOException;
import java.nio.ByteBuffer;
import java.util.ArrayList;
import java.util.LinkedHashMap;
import java.util.List;
import java.util.Map;

/** Of a built class: which classes and members it names, and which calls each of its methods makes. */
final class ClassFile {
    private static final int TEXT = 1, INT = 3, FLOAT = 4, LONG = 5, DOUBLE = 6, CLASS = 7, STRING = 8, FIELD = 9, METHOD = 10,
        INTERFACE_METHOD = 11, NAME_AND_TYPE = 12, HANDLE = 15, METHOD_TYPE = 16, DYNAMIC = 17, INVOKE_DYNAMIC = 18;
    private static final int TABLE_SWITCH = 170, LOOKUP_SWITCH = 171, FIRST_INVOKE = 182, LAST_INVOKE = 185, WIDE = 196, IINC = 132;

    final String file;
    final List<String> classes = new ArrayList<>();
    final List<String[]> members = new ArrayList<>();
    final Map<String, List<String>> callsOf = new LinkedHashMap<>();
    private int[] tags;
    private int[] one;
    private int[] other;
    private String[] texts;

    ClassFile(Class<?> built) throws IOException {
        file = built.getName() + ".class";
        try (DataInputStream in = new DataInputStream(built.getResourceAsStream(file))) {
            in.readLong();
            readConstants(in);
            in.readUnsignedShort();
            String name = texts[one[in.readUnsignedShort()]];
            in.readUnsignedShort();
            in.skipBytes(2 * in.readUnsignedShort());
            readMembers(in, name);
            readMembers(in, name);
        }
        for (int k = 1; k < tags.length; k++) {
            if (tags[k] == CLASS) {
                classes.add(texts[one[k]]);
            } else if (tags[k] == FIELD || tags[k] == METHOD || tags[k] == INTERFACE_METHOD) {
                members.add(member(k));
            }
        }
    }

    /** Its class, name, and type. */
    private String[] member(int k) {
        return new String[] {texts[one[one[k]]], texts[one[other[k]]], texts[other[other[k]]]};
    }

    private void readConstants(DataInputStream in) throws IOException {
        int count = in.readUnsignedShort();
        tags = new int[count];
        one = new int[count];
        other = new int[count];
        texts = new String[count];
        for (int k = 1; k < count; k++) {
            tags[k] = in.readUnsignedByte();
            switch (tags[k]) {
                case TEXT -> texts[k] = in.readUTF();
                case INT, FLOAT -> in.readInt();
                case LONG, DOUBLE -> in.readLong();
                case CLASS, STRING, METHOD_TYPE -> one[k] = in.readUnsignedShort();
                case FIELD, METHOD, INTERFACE_METHOD, NAME_AND_TYPE, DYNAMIC, INVOKE_DYNAMIC -> {
                    one[k] = in.readUnsignedShort();
                    other[k] = in.readUnsignedShort();
                }
                case HANDLE -> in.skipBytes(3);
                default -> throw new IOException("no such constant: " + tags[k]);
            }
            // a long takes two places
            k += tags[k] == LONG || tags[k] == DOUBLE ? 1 : 0;
        }
    }

    /** Fields or methods; what is no code is passed over. */
    private void readMembers(DataInputStream in, String owner) throws IOException {
        for (int count = in.readUnsignedShort(); count > 0; count--) {
            in.readUnsignedShort();
            String name = owner + "." + texts[in.readUnsignedShort()] + texts[in.readUnsignedShort()];
            for (int attributes = in.readUnsignedShort(); attributes > 0; attributes--) {
                boolean isCode = texts[in.readUnsignedShort()].equals("Code");
                byte[] bytes = new byte[in.readInt()];
                in.readFully(bytes);
                if (isCode) {
                    callsOf.put(name, calls(ByteBuffer.wrap(bytes)));
                }
            }
        }
    }

    private List<String> calls(ByteBuffer code) {
        int begin = 8;
        int end = begin + code.getInt(4);
        List<String> calls = new ArrayList<>();
        for (int at = begin; at < end; at += length(code, at, begin)) {
            int what = code.get(at) & 255;
            if (what >= FIRST_INVOKE && what <= LAST_INVOKE) {
                calls.add(String.join("", dotted(member(code.getShort(at + 1) & 0xffff))));
            }
        }
        return calls;
    }

    private static String[] dotted(String[] member) {
        return new String[] {member[0], ".", member[1], member[2]};
    }

    private static int length(ByteBuffer code, int at, int begin) {
        int what = code.get(at) & 255;
        int table = at + 4 - (at - begin) % 4;
        switch (what) {
            case TABLE_SWITCH:
                return table - at + 12 + 4 * (code.getInt(table + 8) - code.getInt(table + 4) + 1);
            case LOOKUP_SWITCH:
                return table - at + 8 + 8 * code.getInt(table + 4);
            case WIDE:
                return (code.get(at + 1) & 255) == IINC ? 6 : 4;
            case 185: case 186: case 200: case 201:
                return 5;
            case 197:
                return 4;
            case 16: case 18: case 169: case 188:
                return 2;
            case 17: case 19: case 20: case IINC: case 187: case 189: case 192: case 193: case 198: case 199:
                return 3;
            default:
                boolean isTwo = what >= 21 && what <= 25 || what >= 54 && what <= 58;
                boolean isThree = what >= 153 && what <= 168 || what >= 178 && what <= 184;
                return isTwo ? 2 : isThree ? 3 : 1;
        }
    }
}
