import java.io.DataInputStream;
import java.io.IOException;
import java.io.InputStream;
import java.util.ArrayList;
import java.util.List;
import java.util.TreeSet;

/** What a compiled class does, read from its bytes: each method's instructions and whom it calls. */
final class ClassFile {
    static final int NEW = 0xbb, NEWARRAY = 0xbc, ANEWARRAY = 0xbd, MULTIANEWARRAY = 0xc5;
    private static final int FIRST_CALL = 0xb6, LAST_CALL = 0xba, IINC = 0x84, WIDE = 0xc4;
    private static final int TABLESWITCH = 0xaa, LOOKUPSWITCH = 0xab;

    static final class Code {
        /** As Owner.name:descriptor. */
        String name;
        final TreeSet<Integer> instructions = new TreeSet<>();
        final List<String> calls = new ArrayList<>();
        int handlers;
    }

    final List<Code> methods = new ArrayList<>();
    private Object[] constants;
    private String owner;

    ClassFile(InputStream bytes) throws IOException {
        DataInputStream in = new DataInputStream(bytes);
        if (in.readInt() != 0xcafebabe) throw new IOException("no class file");
        in.readInt();
        readConstants(in);
        in.readUnsignedShort();
        owner = text(in.readUnsignedShort());
        in.readUnsignedShort();
        for (int i = in.readUnsignedShort(); i > 0; i--) in.readUnsignedShort();
        for (int i = in.readUnsignedShort(); i > 0; i--) readMember(in);
        for (int i = in.readUnsignedShort(); i > 0; i--) readMember(in);
    }

    private void readConstants(DataInputStream in) throws IOException {
        constants = new Object[in.readUnsignedShort()];
        for (int i = 1; i < constants.length; i++) {
            int tag = in.readUnsignedByte();
            switch (tag) {
                case 1: constants[i] = in.readUTF(); break;
                case 3: case 4: constants[i] = in.readInt(); break;
                // longs and doubles take two places
                case 5: case 6: constants[i++] = in.readLong(); break;
                case 7: case 8: case 16: case 19: case 20: constants[i] = new int[] {in.readUnsignedShort()}; break;
                case 15: in.readUnsignedByte(); constants[i] = new int[] {in.readUnsignedShort()}; break;
                default: constants[i] = new int[] {in.readUnsignedShort(), in.readUnsignedShort()};
            }
        }
    }

    /** A text constant, or the ones that a constant is made of. */
    private String text(int at) {
        if (!(constants[at] instanceof int[])) return String.valueOf(constants[at]);
        int[] parts = (int[]) constants[at];
        return parts.length == 1 ? text(parts[0]) : text(parts[0]) + "." + text(parts[1]);
    }

    private void readMember(DataInputStream in) throws IOException {
        in.readUnsignedShort();
        String name = owner + "." + text(in.readUnsignedShort()) + "." + text(in.readUnsignedShort());
        for (int i = in.readUnsignedShort(); i > 0; i--) {
            boolean isCode = text(in.readUnsignedShort()).equals("Code");
            byte[] bytes = new byte[in.readInt()];
            in.readFully(bytes);
            if (isCode) readCode(name, bytes);
        }
    }

    private static int at(byte[] bytes, int place, int many) {
        int number = 0;
        for (int i = 0; i < many; i++) number = number << 8 | bytes[place + i] & 255;
        return number;
    }

    private void readCode(String name, byte[] bytes) {
        Code code = new Code();
        code.name = name;
        int start = 8;
        int length = at(bytes, 4, 4);
        for (int place = 0; place < length; place += lengthOf(bytes, start, place)) {
            int instruction = bytes[start + place] & 255;
            code.instructions.add(instruction);
            if (instruction >= FIRST_CALL && instruction <= LAST_CALL) code.calls.add(text(at(bytes, start + place + 1, 2)));
        }
        code.handlers = at(bytes, start + length, 2);
        methods.add(code);
    }

    private static int lengthOf(byte[] bytes, int start, int place) {
        int instruction = bytes[start + place] & 255;
        int aligned = start + place + 4 - place % 4;
        if (instruction == TABLESWITCH) {
            return aligned - start - place + 12 + 4 * (at(bytes, aligned + 8, 4) - at(bytes, aligned + 4, 4) + 1);
        }
        if (instruction == LOOKUPSWITCH) return aligned - start - place + 8 + 8 * at(bytes, aligned + 4, 4);
        if (instruction == WIDE) return (bytes[start + place + 1] & 255) == IINC ? 6 : 4;
        if (instruction == 0xb9 || instruction == 0xba || instruction >= 0xc8) return 5;
        if (instruction == MULTIANEWARRAY) return 4;
        boolean two = instruction == 0x10 || instruction == 0x12 || instruction >= 0x15 && instruction <= 0x19
            || instruction >= 0x36 && instruction <= 0x3a || instruction == 0xa9 || instruction == NEWARRAY;
        boolean three = instruction == 0x11 || instruction == 0x13 || instruction == 0x14 || instruction == IINC
            || instruction >= 0x99 && instruction <= 0xa8 || instruction >= 0xb2 && instruction <= 0xb8
            || instruction == NEW || instruction == ANEWARRAY || instruction == 0xc0 || instruction == 0xc1
            || instruction == 0xc6 || instruction == 0xc7;
        return two ? 2 : three ? 3 : 1;
    }
}
