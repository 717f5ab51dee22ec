import java.io.DataInputStream;
import java.io.IOException;
import java.io.InputStream;
import java.util.ArrayList;
import java.util.List;

/** A compiled class: its fields, its methods, and their instructions. */
final class ClassFile {
    private static final int TABLE_SWITCH = 170;
    private static final int LOOKUP_SWITCH = 171;
    private static final int WIDE = 196;
    private static final int INCREMENT = 132;

    private static final String TWO_BYTES = " 16 18 21 22 23 24 25 54 55 56 57 58 169 188 ";
    private static final String THREE_BYTES = " 17 19 20 132 187 189 192 193 198 199 ";
    private static final String FIVE_BYTES = " 185 186 200 201 ";

    static final class Member {
        final int access;
        final String name;
        final String type;
        final List<Instruction> instructions = new ArrayList<>();
        int handlers;
        int firstLine = Integer.MAX_VALUE;
        int lastLine;

        Member(int access, String name, String type) {
            this.access = access;
            this.name = name;
            this.type = type;
        }
    }

    static final class Instruction {
        final int code;
        /** The field, the method or the class that the instruction names, or "". */
        final String names;

        Instruction(int code, String names) {
            this.code = code;
            this.names = names;
        }
    }

    final String name;
    final List<Member> fields = new ArrayList<>();
    final List<Member> methods = new ArrayList<>();

    private final DataInputStream in;
    private int[] tags = new int[0];
    private int[][] parts = new int[0][];
    private String[] texts = new String[0];

    private ClassFile(InputStream stream) throws IOException {
        in = new DataInputStream(stream);
        in.skipNBytes(8);
        readConstants();
        in.skipNBytes(2);
        name = words(in.readUnsignedShort());
        in.skipNBytes(2);
        in.skipNBytes(2L * in.readUnsignedShort());
        readMembers(fields);
        readMembers(methods);
    }

    static ClassFile of(Class<?> kind) throws IOException {
        try (InputStream stream = kind.getResourceAsStream("/" + kind.getName() + ".class")) {
            return new ClassFile(stream);
        }
    }

    private void readConstants() throws IOException {
        int count = in.readUnsignedShort();
        tags = new int[count];
        parts = new int[count][];
        texts = new String[count];
        for (int i = 1; i < count; i++) {
            tags[i] = in.readUnsignedByte();
            switch (tags[i]) {
                case 1:
                    texts[i] = in.readUTF();
                    break;
                case 3: case 4:
                    in.skipNBytes(4);
                    break;
                case 5: case 6:
                    // A long or a double takes two numbers.
                    in.skipNBytes(8);
                    i++;
                    break;
                case 7: case 8: case 16: case 19: case 20:
                    parts[i] = new int[] {in.readUnsignedShort()};
                    break;
                case 15:
                    parts[i] = new int[] {in.readUnsignedByte(), in.readUnsignedShort()};
                    break;
                default:
                    parts[i] = new int[] {in.readUnsignedShort(), in.readUnsignedShort()};
            }
        }
    }

    /** A class as its name, a member as Owner.name:type. */
    private String words(int constant) {
        switch (tags[constant]) {
            case 1:
                return texts[constant];
            case 7:
                return words(parts[constant][0]);
            case 9: case 10: case 11:
                return words(parts[constant][0]) + "." + words(parts[constant][1]);
            case 12:
                return words(parts[constant][0]) + ":" + words(parts[constant][1]);
            default:
                return "";
        }
    }

    private void readMembers(List<Member> members) throws IOException {
        int count = in.readUnsignedShort();
        for (int i = 0; i < count; i++) {
            int access = in.readUnsignedShort();
            String memberName = words(in.readUnsignedShort());
            Member member = new Member(access, memberName, words(in.readUnsignedShort()));
            readAttributes(member);
            members.add(member);
        }
    }

    private void readAttributes(Member member) throws IOException {
        int count = in.readUnsignedShort();
        for (int i = 0; i < count; i++) {
            String attribute = words(in.readUnsignedShort());
            int length = in.readInt();
            if (attribute.equals("Code")) {
                in.skipNBytes(4);
                byte[] code = in.readNBytes(in.readInt());
                member.handlers = in.readUnsignedShort();
                in.skipNBytes(8L * member.handlers);
                readInstructions(member, code);
                readAttributes(member);
            } else if (attribute.equals("LineNumberTable")) {
                readLines(member);
            } else {
                in.skipNBytes(length);
            }
        }
    }

    private void readLines(Member member) throws IOException {
        int lines = in.readUnsignedShort();
        for (int i = 0; i < lines; i++) {
            in.skipNBytes(2);
            int line = in.readUnsignedShort();
            member.firstLine = Math.min(member.firstLine, line);
            member.lastLine = Math.max(member.lastLine, line);
        }
    }

    private void readInstructions(Member member, byte[] code) {
        int at = 0;
        while (at < code.length) {
            int instruction = code[at] & 255;
            boolean named = instruction >= 178 && instruction <= 187 || instruction == 189
                || instruction == 192 || instruction == 193 || instruction == 197;
            int constant = named ? (code[at + 1] & 255) << 8 | code[at + 2] & 255 : 0;
            member.instructions.add(new Instruction(instruction, words(constant)));
            at += length(code, at);
        }
    }

    private static int length(byte[] code, int at) {
        int instruction = code[at] & 255;
        int padded = at / 4 * 4 + 4;
        switch (instruction) {
            case TABLE_SWITCH:
                return padded - at + 12 + 4 * (number(code, padded + 8) - number(code, padded + 4) + 1);
            case LOOKUP_SWITCH:
                return padded - at + 8 + 8 * number(code, padded + 4);
            case WIDE:
                return (code[at + 1] & 255) == INCREMENT ? 6 : 4;
            case 197:
                return 4;
            default:
                return plainLength(instruction);
        }
    }

    private static int plainLength(int instruction) {
        String word = " " + instruction + " ";
        boolean jump = instruction >= 153 && instruction <= 168;
        boolean member = instruction >= 178 && instruction <= 184;
        if (jump || member || THREE_BYTES.contains(word)) {
            return 3;
        }
        if (TWO_BYTES.contains(word)) {
            return 2;
        }
        return FIVE_BYTES.contains(word) ? 5 : 1;
    }

    private static int number(byte[] code, int at) {
        int number = 0;
        for (int i = 0; i < 4; i++) {
            number = number << 8 | code[at + i] & 255;
        }
        return number;
    }
}
