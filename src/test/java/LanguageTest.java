import java.io.ByteArrayInputStream;
import java.io.DataInputStream;
import java.io.IOException;
import java.io.InputStream;
import java.nio.charset.StandardCharsets;
import java.nio.file.Files;
import java.nio.file.Path;
import java.util.ArrayList;
import java.util.Arrays;
import java.util.HashMap;
import java.util.HashSet;
import java.util.List;
import java.util.Map;
import java.util.Set;
import java.util.TreeMap;
import java.util.TreeSet;
import java.util.regex.Pattern;

/**
 * Looks in the compiled class, and in its source, for what LANGUAGE.md leaves out, as far as a
 * rule can be seen there. Each line that is printed begins with the rule's number. (That the face
 * is the document's, rule 1, is looked at by FaceTest.)
 */
public final class LanguageTest {
    private static final Set<String> THROWN = Set.of("java/lang/IllegalStateException",
            "java/lang/IllegalArgumentException", "java/lang/IndexOutOfBoundsException",
            "java/lang/ArithmeticException", "java/lang/UnsupportedOperationException",
            "java/util/NoSuchElementException", "java/lang/RuntimeException");
    private static final Pattern LIBRARY = Pattern.compile("java/lang/Object\\.<init>"
            + "|java/lang/String\\.(length|charAt|isEmpty|equals|indexOf|substring|toCharArray"
            + "|<init>)"
            + "|java/lang/StringBuilder\\.(<init>|append|charAt|setCharAt|setLength|deleteCharAt"
            + "|reverse|length|toString)"
            + "|java/util/(ArrayList|List)\\.(<init>|add|get|set|remove|size|isEmpty|clear"
            + "|iterator|of)"
            + "|java/util/Iterator\\.(hasNext|next)"
            + "|java/lang/Integer\\.(valueOf|intValue)"
            + "|java/lang/(Integer|Long)\\.(compare|max|min|bitCount|signum"
            + "|numberOfLeadingZeros|numberOfTrailingZeros|highestOneBit|lowestOneBit)"
            + "|java/lang/Math\\.(max|min|abs|floorDiv|floorMod)"
            + "|java/lang/System\\.arraycopy|java/util/Arrays\\.(copyOf|copyOfRange|fill)"
            + "|\\[.*\\.clone");
    private static final Pattern CONSTANT_TYPE =
            Pattern.compile("I|J|Z|C|Ljava/lang/String;|\\[[IJCB]");
    private static final Pattern FIELD_TYPE = Pattern.compile("\\[{0,2}[IJSBCZDF]"
            + "|\\[?LCarpool\\$\\w+;|Ljava/lang/(String|StringBuilder|Integer);"
            + "|Ljava/util/(ArrayList|List);");
    private static final Pattern WORDS_LEFT_OUT = Pattern.compile("\\b(package|protected"
            + "|synchronized|assert|finally|native|volatile|transient|strictfp)\\b");
    private static final int PARAMETERS = 7;
    private static final int LINES = 60;
    private static final int DEPTH = 8;
    private static final int FIELDS = 20;
    private static final int CLASSES = 12;

    private static int looks;
    private static int wrong;

    public static void main(String[] args) throws IOException {
        List<ClassFile> classes = readClasses();
        Map<String, Set<String>> calls = new TreeMap<>();
        for (ClassFile file : classes) {
            checkFields(file);
            for (Method method : file.methods) {
                checkMethod(file, method);
                calls.put(file.name + "." + method.name + method.type, method.calls);
            }
        }
        expect(11, "classes: " + classes.size(), classes.size() <= CLASSES);
        checkDepth(calls);
        checkSource(Path.of("src/main/java/Carpool.java"));
        System.out.println(looks + " looks, " + wrong + " wrong");
        if (wrong != 0) {
            System.exit(1);
        }
    }

    private static void expect(int rule, String what, boolean good) {
        looks++;
        if (!good) {
            wrong++;
            System.out.println("rule " + rule + " is not kept: " + what);
        }
    }

    // ---- the rules

    private static void checkFields(ClassFile file) {
        int ownFields = 0;
        for (Field field : file.fields) {
            String what = file.name + "." + field.name + " of " + field.type;
            if (field.isStatic) {
                expect(5, "static, not final: " + what, field.isFinal);
                expect(5, "static: " + what, CONSTANT_TYPE.matcher(field.type).matches());
            } else {
                ownFields++;
                expect(3, what, FIELD_TYPE.matcher(field.type).matches());
            }
        }
        expect(11, "fields of " + file.name + ": " + ownFields, ownFields <= FIELDS);
    }

    private static void checkMethod(ClassFile file, Method method) {
        String where = file.name + "." + method.name;
        expect(11, "parameters of " + where, method.parameterCount() <= PARAMETERS);
        expect(11, "lines of " + where + ": " + method.lines, method.lines <= LINES);
        expect(4, "a lambda, or texts joined by + in " + where, !method.isDynamic);
        expect(6, "a throw in the constructor of " + file.name,
                !method.isThrowing || !method.name.equals("<init>"));
        for (String caught : method.caught) {
            expect(6, "catch of " + caught + " in " + where, THROWN.contains(caught));
            expect(6, "a throw and a catch in " + where, !method.isThrowing);
        }
        for (String made : method.made) {
            expect(4, "new " + made + " in " + where, made.startsWith("Carpool")
                    || THROWN.contains(made) || LIBRARY.matcher(made + ".<init>").matches());
        }
        for (String call : method.calls) {
            String called = call.substring(0, call.indexOf('('));
            expect(4, called + " in " + where, called.startsWith("Carpool")
                    || THROWN.contains(called.replace(".<init>", ""))
                    || LIBRARY.matcher(called).matches());
        }
    }

    /** There is no recursion in this class, so that each chain of calls counts. */
    private static void checkDepth(Map<String, Set<String>> calls) {
        Map<String, Integer> depths = new HashMap<>();
        for (String method : calls.keySet()) {
            int depth = depth(method, calls, depths, new ArrayList<>());
            expect(11, "calls under " + method + " are " + depth + " deep", depth <= DEPTH);
        }
    }

    /** The method itself and those of the library count, but no making of an exception. */
    private static int depth(String method, Map<String, Set<String>> calls,
            Map<String, Integer> depths, List<String> open) {
        if (open.contains(method)) {
            expect(8, "recursion without a look at its depth: " + open, false);
            return 0;
        }
        if (!depths.containsKey(method)) {
            open.add(method);
            int deepest = 0;
            for (String called : calls.getOrDefault(method, Set.of())) {
                if (!called.contains(".<init>")) {
                    deepest = Math.max(deepest, depth(called, calls, depths, open));
                }
            }
            open.remove(method);
            depths.put(method, deepest + 1);
        }
        return depths.get(method);
    }

    private static void checkSource(Path source) throws IOException {
        String whole = Files.readString(source, StandardCharsets.ISO_8859_1);
        expect(4, "signs above 127", whole.chars().allMatch(c -> 0 < c && c < 128));
        for (String line : whole.replaceAll("(?s)/\\*.*?\\*/", "").split("\n")) {
            String code = line.replaceAll("//.*", "").replaceAll("\"[^\"]*\"", "\"\"");
            expect(6, line, !WORDS_LEFT_OUT.matcher(code).find());
            expect(4, line, !code.contains("import ")
                    || code.matches("import java\\.util\\.(Arrays|ArrayList|List|Iterator"
                    + "|NoSuchElementException);"));
            expect(6, line, !code.matches(".*\\bthrow\\b.*")
                    || code.matches("\\s*throw new \\w+\\((\"\")?\\);"));
            expect(5, line, !code.matches("\\s*static \\{.*"));
        }
    }

    // ---- how a class file is read

    private static List<ClassFile> readClasses() throws IOException {
        List<ClassFile> classes = new ArrayList<>();
        classes.add(new ClassFile("Carpool"));
        for (Class<?> inside : Carpool.class.getDeclaredClasses()) {
            classes.add(new ClassFile(inside.getName()));
        }
        return classes;
    }

    private record Field(String name, String type, boolean isStatic, boolean isFinal) {
    }

    private static final class Method {
        private final String name;
        private final String type;
        private final Set<String> calls = new TreeSet<>();
        private final Set<String> made = new TreeSet<>();
        private final Set<String> caught = new HashSet<>();
        private boolean isDynamic;
        private boolean isThrowing;
        private int lines;

        Method(String name, String type) {
            this.name = name;
            this.type = type;
        }

        int parameterCount() {
            String parameters = type.substring(1, type.indexOf(')'));
            return parameters.replaceAll("\\[*(L[^;]*;|.)", "x").length();
        }
    }

    /** The parts of a class file that the rules speak of. */
    private static final class ClassFile {
        private static final int STATIC = 8;
        private static final int FINAL = 16;

        private final String name;
        private final List<Field> fields = new ArrayList<>();
        private final List<Method> methods = new ArrayList<>();
        /** A text, a number of another constant, or two of these. */
        private Object[] constants;

        ClassFile(String name) throws IOException {
            this.name = name;
            try (InputStream stream = Carpool.class.getResourceAsStream(name + ".class")) {
                DataInputStream in = new DataInputStream(stream);
                in.skipNBytes(8);
                readConstants(in);
                in.skipNBytes(6);
                in.skipNBytes(2 * in.readUnsignedShort());
                for (int left = in.readUnsignedShort(); left > 0; left--) {
                    readField(in);
                }
                for (int left = in.readUnsignedShort(); left > 0; left--) {
                    readMethod(in);
                }
            }
        }

        private void readConstants(DataInputStream in) throws IOException {
            constants = new Object[in.readUnsignedShort()];
            for (int k = 1; k < constants.length; k++) {
                int tag = in.readUnsignedByte();
                switch (tag) {
                    case 1 -> constants[k] = in.readUTF();
                    case 7, 8, 16, 19, 20 -> constants[k] = in.readUnsignedShort();
                    case 9, 10, 11, 12, 17, 18 -> constants[k] =
                            new int[] {in.readUnsignedShort(), in.readUnsignedShort()};
                    case 3, 4 -> in.skipNBytes(4);
                    case 15 -> in.skipNBytes(3);
                    case 5, 6 -> {
                        in.skipNBytes(8);
                        k++;
                    }
                    default -> throw new IOException("constant of tag " + tag);
                }
            }
        }

        private String text(int index) {
            return (String) constants[index];
        }

        private String className(int index) {
            return text((Integer) constants[index]);
        }

        /** The class, the name and the type of a method that is called. */
        private String methodName(int index) {
            int[] member = (int[]) constants[index];
            int[] nameAndType = (int[]) constants[member[1]];
            return className(member[0]) + "." + text(nameAndType[0]) + text(nameAndType[1]);
        }

        private void readField(DataInputStream in) throws IOException {
            int access = in.readUnsignedShort();
            fields.add(new Field(text(in.readUnsignedShort()), text(in.readUnsignedShort()),
                    (access & STATIC) != 0, (access & FINAL) != 0));
            for (int left = in.readUnsignedShort(); left > 0; left--) {
                in.skipNBytes(2);
                in.skipNBytes(in.readInt());
            }
        }

        private void readMethod(DataInputStream in) throws IOException {
            in.skipNBytes(2);
            Method method = new Method(text(in.readUnsignedShort()), text(in.readUnsignedShort()));
            methods.add(method);
            for (int left = in.readUnsignedShort(); left > 0; left--) {
                String attribute = text(in.readUnsignedShort());
                byte[] content = in.readNBytes(in.readInt());
                if (attribute.equals("Code")) {
                    readCode(new DataInputStream(new ByteArrayInputStream(content)), method);
                }
            }
        }

        private void readCode(DataInputStream in, Method method) throws IOException {
            in.skipNBytes(4);
            byte[] code = in.readNBytes(in.readInt());
            for (int at = 0; at < code.length; at += Instructions.length(code, at)) {
                readInstruction(code[at] & 255, at + 2 < code.length
                        ? Instructions.twoBytes(code, at + 1) : 0, method);
            }
            for (int left = in.readUnsignedShort(); left > 0; left--) {
                in.skipNBytes(6);
                int caught = in.readUnsignedShort();
                method.caught.add(caught == 0 ? "anything" : className(caught));
            }
            for (int left = in.readUnsignedShort(); left > 0; left--) {
                boolean isLines = text(in.readUnsignedShort()).equals("LineNumberTable");
                byte[] content = in.readNBytes(in.readInt());
                if (isLines) {
                    method.lines = lines(content);
                }
            }
        }

        private void readInstruction(int code, int index, Method method) {
            switch (code) {
                case Instructions.NEW -> method.made.add(className(index));
                case Instructions.THROW -> method.isThrowing = true;
                case Instructions.INVOKE_DYNAMIC -> method.isDynamic = true;
                case 182, 183, 184, 185 -> method.calls.add(methodName(index));
                default -> { }
            }
        }

        /** From the first line with code to the last one. */
        private static int lines(byte[] table) {
            int first = Integer.MAX_VALUE;
            int last = 0;
            for (int at = 4; at + 1 < table.length; at += 4) {
                int line = Instructions.twoBytes(table, at);
                first = Math.min(first, line);
                last = Math.max(last, line);
            }
            return last - first + 1;
        }
    }

    /** The instructions of the machine. */
    private static final class Instructions {
        private static final int TABLE_SWITCH = 170;
        private static final int LOOKUP_SWITCH = 171;
        private static final int INVOKE_DYNAMIC = 186;
        private static final int NEW = 187;
        private static final int THROW = 191;
        private static final int WIDE = 196;
        private static final int INCREMENT = 132;

        private static final int[] LENGTHS = lengths();

        private static int[] lengths() {
            int[] lengths = new int[256];
            Arrays.fill(lengths, 1);
            set(lengths, 2, 16, 16, 18, 18, 21, 25, 54, 58, 169, 169, 188, 188);
            set(lengths, 3, 17, 17, 19, 20, 132, 132, 153, 168, 178, 184, 187, 187, 189, 189,
                    192, 193, 198, 199);
            set(lengths, 4, 197, 197);
            set(lengths, 5, 185, 186, 200, 201);
            return lengths;
        }

        /** The ranges are given by their first and last code. */
        private static void set(int[] lengths, int length, int... ranges) {
            for (int k = 0; k < ranges.length; k += 2) {
                Arrays.fill(lengths, ranges[k], ranges[k + 1] + 1, length);
            }
        }

        private static int length(byte[] code, int at) {
            int padded = (at / 4 + 1) * 4;
            return switch (code[at] & 255) {
                case TABLE_SWITCH -> padded - at + 12
                        + 4 * (fourBytes(code, padded + 8) - fourBytes(code, padded + 4) + 1);
                case LOOKUP_SWITCH -> padded - at + 8 + 8 * fourBytes(code, padded + 4);
                case WIDE -> (code[at + 1] & 255) == INCREMENT ? 6 : 4;
                default -> LENGTHS[code[at] & 255];
            };
        }

        private static int twoBytes(byte[] code, int at) {
            return (code[at] & 255) << 8 | code[at + 1] & 255;
        }

        private static int fourBytes(byte[] code, int at) {
            return twoBytes(code, at) << 16 | twoBytes(code, at + 2);
        }
    }
}
