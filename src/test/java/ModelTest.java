import java.io.ByteArrayOutputStream;
import java.math.BigInteger;
import java.nio.ByteBuffer;
import java.nio.charset.CharacterCodingException;
import java.nio.charset.StandardCharsets;
import java.util.ArrayDeque;
import java.util.ArrayList;
import java.util.Arrays;
import java.util.Deque;
import java.util.List;
import java.util.Random;
import java.util.regex.Matcher;
import java.util.regex.Pattern;

/**
 * Promises 5 and 6 against a second implementation, which has no recursion for reading, uses the Java library
 * for numbers and signs, and looks at values as trees. The seeds are fixed: every run tests the same.
 */
public final class ModelTest {
    private static final Bench bench = new Bench();
    private static final String EARLIER_JSON = "[\"what was\"]";
    private static final String EARLIER_CBOR = "81687768617420776173";
    private static final BigInteger LEAST = BigInteger.ONE.shiftLeft(64).negate();
    private static final BigInteger MOST = BigInteger.ONE.shiftLeft(64).subtract(BigInteger.ONE);

    /** A fault of the model, or a tree. */
    private static final class Result {
        int kind = 0;
        int place = -1;
        Object tree;

        static Result fault(int kind, int place) {
            Result r = new Result();
            r.kind = kind;
            r.place = place;
            return r;
        }
    }

    private static final class Node {
        final boolean isMap;
        final List<Object> parts = new ArrayList<>();
        BigInteger lacking;

        Node(boolean isMap) {
            this.isMap = isMap;
        }
    }

    public static void main(String[] args) {
        for (int seed = 0; seed < 20000; seed++) {
            Random random = new Random(seed);
            Object tree = randomTree(random, random.nextInt(5));
            byte[] json = looseJson(random, tree);
            byte[] cbor = cborOf(tree);
            int depth = random.nextInt(4) == 0 ? random.nextInt(5) : 20;
            int room = random.nextInt(4) == 0 ? random.nextInt(60) : 4000;
            compareJson(json, depth, room);
            compareCbor(cbor, depth, room);
            for (int i = 0; i < 6; i++) {
                compareJson(changed(random, json, true), depth, room);
                compareCbor(changed(random, cbor, false), depth, room);
            }
        }
        for (String start : new String[] {"", "[-2.5", "18446744073709551616", "-18446744073709551616"}) {
            compareNumbers(start, 5);
        }
        bench.finish("ModelTest");
    }

    /** The text, and all that has up to so many signs more of those that numbers have, and some others. */
    private static void compareNumbers(String text, int more) {
        compareJson(Bench.bytes(text), 20, 4000);
        for (char sign : "-+.e019] ".toCharArray()) {
            if (more > 0) {
                compareNumbers(text + sign, more - 1);
            }
        }
    }

    private static void compareJson(byte[] json, int depth, int room) {
        if (json.length > 4000) {
            return;
        }
        Result want = readJson(json, depth);
        byte[] bytes = want.kind == 0 ? cborOf(want.tree) : new byte[0];
        TextBridge x = withEarlierWriting();
        Bench.load(x, json);
        x.bounds(depth, room);
        compare("toCbor of " + Bench.shown(json) + " " + depth + " " + room, x, x.toCbor(), want, bytes, json.length, room);
    }

    private static void compareCbor(byte[] cbor, int depth, int room) {
        if (cbor.length > 4000) {
            return;
        }
        Result want = readCbor(cbor, depth);
        byte[] bytes = want.kind == 0 ? Bench.utf8(jsonOf(want.tree)) : new byte[0];
        TextBridge x = withEarlierWriting();
        Bench.load(x, cbor);
        x.bounds(depth, room);
        compare("toJson of " + Bench.hex(cbor) + " " + depth + " " + room, x, x.toJson(), want, bytes, cbor.length, room);
    }

    private static TextBridge withEarlierWriting() {
        TextBridge x = Bench.loaded(Bench.bytes(EARLIER_JSON));
        x.toCbor();
        return x;
    }

    private static void compare(String name, TextBridge x, int got, Result want, byte[] bytes, int length, int room) {
        Result due = want.kind == 0 && bytes.length > room ? Result.fault(5, length) : want;
        byte[] written = due.kind == 0 ? bytes : Bench.unhex(EARLIER_CBOR);
        bench.due(name, got, due.kind == 0 ? written.length : -due.kind);
        bench.due(name + ": errorAt", x.errorAt(), due.place);
        bench.due(name + ": outSize", x.outSize(), written.length);
        byte[] all = new byte[Math.min(written.length, 200)];
        for (int i = 0; i < all.length; i++) {
            all[i] = (byte) x.out(i);
        }
        bench.due(name, Bench.hex(all), Bench.hex(Arrays.copyOf(written, all.length)));
    }

    // ---- making values, and changing bytes

    private static Object randomTree(Random random, int depth) {
        int pick = random.nextInt(depth > 0 ? 10 : 5);
        if (pick == 0) {
            return random.nextInt(3) - 1;
        }
        if (pick <= 2) {
            return randomNumber(random);
        }
        if (pick <= 4) {
            return randomText(random);
        }
        Node node = new Node(pick <= 7);
        int count = random.nextInt(20) == 0 ? 20 + random.nextInt(10) : random.nextInt(5);
        for (int i = 0; i < count; i++) {
            if (node.isMap) {
                node.parts.add(randomText(random));
            }
            node.parts.add(randomTree(random, depth - 1));
        }
        return node;
    }

    private static BigInteger randomNumber(Random random) {
        int[] edges = {0, 1, 4, 5, 8, 9, 16, 17, 32, 33, 63, 64};
        BigInteger number = random.nextBoolean()
            ? new BigInteger(random.nextInt(65), random)
            : BigInteger.ONE.shiftLeft(edges[random.nextInt(edges.length)]).add(BigInteger.valueOf(random.nextInt(5) - 2));
        BigInteger signed = random.nextBoolean() ? number : number.negate();
        return signed.max(LEAST).min(MOST);
    }

    private static String randomText(Random random) {
        int[] edges = {0, 8, 9, 10, 11, 12, 13, 31, 32, 34, 47, 92, 127, 128, 0x7FF, 0x800, 0xD7FF, 0xE000, 0xFFFF, 0x10000, 0x10FFFF};
        StringBuilder text = new StringBuilder();
        int count = random.nextInt(15) == 0 ? 20 + random.nextInt(300) : random.nextInt(6);
        for (int i = 0; i < count; i++) {
            text.appendCodePoint(random.nextBoolean() ? 'a' + random.nextInt(26) : edges[random.nextInt(edges.length)]);
        }
        return text.toString();
    }

    private static byte[] changed(Random random, byte[] bytes, boolean isJson) {
        String signs = "\"\\/{}[],:.eE+-0123456789ufalsetruenbdcDC \t\n\u0001\u0080\u00bf\u00c3\u00e2\u00ed\u00a0\u00f0\u00f4\u00ff";
        byte[] result = bytes;
        int changes = 1 + random.nextInt(2);
        for (int i = 0; i < changes; i++) {
            int place = random.nextInt(result.length + 1);
            byte fresh = (byte) (isJson ? signs.charAt(random.nextInt(signs.length())) : random.nextInt(256));
            switch (random.nextInt(4)) {
                case 0:
                    result = Arrays.copyOf(result, place);
                    break;
                case 1:
                    result = Bench.join(Bench.join(Arrays.copyOf(result, place), new byte[] {fresh}),
                        Arrays.copyOfRange(result, place, result.length));
                    break;
                case 2:
                    result = place < result.length
                        ? Bench.join(Arrays.copyOf(result, place), Arrays.copyOfRange(result, place + 1, result.length))
                        : result;
                    break;
                default:
                    result = result.clone();
                    if (place < result.length) {
                        result[place] = fresh;
                    }
                    break;
            }
        }
        return result;
    }

    // ---- writing

    /** JSON with blanks and with needless escapes. */
    private static byte[] looseJson(Random random, Object tree) {
        ByteArrayOutputStream out = new ByteArrayOutputStream();
        putLoose(random, tree, out);
        return out.toByteArray();
    }

    private static void putLoose(Random random, Object tree, ByteArrayOutputStream out) {
        blanks(random, out);
        if (tree instanceof Node) {
            Node node = (Node) tree;
            out.write(node.isMap ? '{' : '[');
            for (int i = 0; i < node.parts.size(); i++) {
                if (i > 0) {
                    out.write(node.isMap && i % 2 == 1 ? ':' : ',');
                }
                putLoose(random, node.parts.get(i), out);
            }
            blanks(random, out);
            out.write(node.isMap ? '}' : ']');
        } else if (tree instanceof String) {
            putLooseText(random, (String) tree, out);
        } else {
            out.writeBytes(Bench.utf8(jsonOf(tree)));
            if (tree instanceof BigInteger && random.nextInt(40) == 0) {
                String[] parts = {".25", "e+1", ".5E-07", "0000000000", ".", ".5e", "E-", "00000000000000000000.1e+"};
                out.writeBytes(Bench.bytes(parts[random.nextInt(parts.length)]));
            }
        }
        blanks(random, out);
    }

    private static void putLooseText(Random random, String text, ByteArrayOutputStream out) {
        out.write('"');
        int[] codes = text.codePoints().toArray();
        for (int code : codes) {
            String sign = new String(Character.toChars(code));
            if (random.nextInt(4) == 0) {
                for (char half : sign.toCharArray()) {
                    out.writeBytes(Bench.bytes(String.format(random.nextBoolean() ? "\\u%04x" : "\\u%04X", (int) half)));
                }
            } else if (code == '/' && random.nextBoolean()) {
                out.writeBytes(Bench.bytes("\\/"));
            } else {
                String written = jsonOf(sign);
                out.writeBytes(Bench.utf8(written.substring(1, written.length() - 1)));
            }
        }
        out.write('"');
    }

    private static void blanks(Random random, ByteArrayOutputStream out) {
        if (random.nextInt(6) == 0) {
            out.write(" \t\n\r".charAt(random.nextInt(4)));
        }
    }

    private static String jsonOf(Object tree) {
        if (tree instanceof BigInteger) {
            return tree.toString();
        }
        if (tree instanceof Integer) {
            int word = (Integer) tree;
            return word < 0 ? "false" : word > 0 ? "true" : "null";
        }
        StringBuilder out = new StringBuilder();
        if (tree instanceof String) {
            out.append('"');
            for (char sign : ((String) tree).toCharArray()) {
                int named = "\"\\\b\t\n\f\r".indexOf(sign);
                out.append(named >= 0 ? "\\" + "\"\\btnfr".charAt(named) : sign < 32 ? String.format("\\u%04x", (int) sign) : "" + sign);
            }
            return out.append('"').toString();
        }
        Node node = (Node) tree;
        out.append(node.isMap ? '{' : '[');
        for (int i = 0; i < node.parts.size(); i++) {
            out.append(i == 0 ? "" : node.isMap && i % 2 == 1 ? ":" : ",").append(jsonOf(node.parts.get(i)));
        }
        return out.append(node.isMap ? '}' : ']').toString();
    }

    private static byte[] cborOf(Object tree) {
        if (tree instanceof Integer) {
            int word = (Integer) tree;
            return new byte[] {(byte) (word < 0 ? 0xF4 : word > 0 ? 0xF5 : 0xF6)};
        }
        if (tree instanceof BigInteger) {
            BigInteger number = (BigInteger) tree;
            return number.signum() >= 0 ? head(0, number) : head(1, number.not());
        }
        if (tree instanceof String) {
            byte[] text = Bench.utf8((String) tree);
            return Bench.join(head(3, BigInteger.valueOf(text.length)), text);
        }
        Node node = (Node) tree;
        ByteArrayOutputStream out = new ByteArrayOutputStream();
        out.writeBytes(node.isMap ? head(5, BigInteger.valueOf(node.parts.size() / 2)) : head(4, BigInteger.valueOf(node.parts.size())));
        for (Object part : node.parts) {
            out.writeBytes(cborOf(part));
        }
        return out.toByteArray();
    }

    private static byte[] head(int type, BigInteger number) {
        if (number.bitLength() <= 5 && number.intValue() < 24) {
            return new byte[] {(byte) (type * 32 + number.intValue())};
        }
        int log = 0;
        while (number.bitLength() > 8 << log) {
            log++;
        }
        byte[] result = new byte[1 + (1 << log)];
        result[0] = (byte) (type * 32 + 24 + log);
        for (int i = 1; i < result.length; i++) {
            result[i] = number.shiftRight(8 * (result.length - 1 - i)).byteValue();
        }
        return result;
    }

    // ---- reading JSON: a table of what may come next, and a stack

    private static final Pattern WHOLE = Pattern.compile("-?(0|[1-9][0-9]*)");
    // A part that has begun, but lacks its digits.
    private static final Pattern LACKING = Pattern.compile("(\\.[0-9]++)?+[eE][+-]?+(?![0-9])|\\.(?![0-9])");

    private static Result readJson(byte[] bytes, int depth) {
        String text = new String(bytes, StandardCharsets.ISO_8859_1);
        Deque<Node> open = new ArrayDeque<>();
        Object root = null;
        String next = "value";
        int p = 0;
        while (p < text.length()) {
            char c = text.charAt(p);
            if (" \t\r\n".indexOf(c) >= 0) {
                p++;
                continue;
            }
            boolean wantsValue = next.equals("value") || next.equals("value or ]");
            boolean wantsKey = next.equals("key") || next.equals("key or }");
            Object got = null;
            if (wantsKey && c != '"' && !(c == '}' && next.equals("key or }"))) {
                return Result.fault(1, p);
            }
            if (c == '"' && (wantsKey || wantsValue)) {
                StringBuilder out = new StringBuilder();
                Result fault = readText(bytes, text, p, out);
                if (fault.kind != 0) {
                    return fault;
                }
                p = fault.place;
                got = out.toString();
                if (wantsKey) {
                    open.peek().parts.add(got);
                    next = ":";
                    continue;
                }
            } else if (wantsValue && (c == '[' || c == '{')) {
                if (open.size() >= depth) {
                    return Result.fault(4, p);
                }
                open.push(new Node(c == '{'));
                next = c == '{' ? "key or }" : "value or ]";
                p++;
                continue;
            } else if (wantsValue && (c == '-' || c >= '0' && c <= '9')) {
                Matcher whole = WHOLE.matcher(text).region(p, text.length());
                if (!whole.lookingAt()) {
                    return Result.fault(1, p + 1);
                }
                BigInteger number = new BigInteger(whole.group());
                String rest = text.substring(whole.end());
                Matcher lacking = LACKING.matcher(rest);
                if (lacking.lookingAt()) {
                    return Result.fault(1, whole.end() + lacking.end());
                }
                boolean hasPart = !rest.isEmpty() && ".eE".indexOf(rest.charAt(0)) >= 0;
                if (hasPart || number.compareTo(LEAST) < 0 || number.compareTo(MOST) > 0) {
                    return Result.fault(3, p);
                }
                got = number;
                p = whole.end();
            } else if (wantsValue && (c == 'f' || c == 't' || c == 'n')) {
                String word = c == 'f' ? "false" : c == 't' ? "true" : "null";
                int same = 0;
                while (same < word.length() && p + same < text.length() && text.charAt(p + same) == word.charAt(same)) {
                    same++;
                }
                if (same < word.length()) {
                    return Result.fault(1, p + same);
                }
                got = c == 'f' ? -1 : c == 't' ? 1 : 0;
                p += same;
            } else if (c == ':' && next.equals(":")) {
                next = "value";
                p++;
                continue;
            } else if (c == ',' && next.equals("more")) {
                next = open.peek().isMap ? "key" : "value";
                p++;
                continue;
            } else if (c == ']' && (next.equals("value or ]") || next.equals("more") && !open.peek().isMap)
                || c == '}' && (next.equals("key or }") || next.equals("more") && open.peek().isMap)) {
                got = open.pop();
                p++;
            } else {
                return Result.fault(1, p);
            }
            if (open.isEmpty()) {
                root = got;
                next = "nothing";
            } else {
                open.peek().parts.add(got);
                next = "more";
            }
        }
        if (!next.equals("nothing")) {
            return Result.fault(1, text.length());
        }
        Result result = new Result();
        result.tree = root;
        return result;
    }

    /** With kind 0 the place is the one behind the string. */
    private static Result readText(byte[] bytes, String text, int start, StringBuilder out) {
        int p = start + 1;
        while (p < text.length()) {
            char c = text.charAt(p);
            if (c == '"') {
                return Result.fault(0, p + 1);
            }
            if (c < 32) {
                return Result.fault(1, p);
            }
            if (c != '\\') {
                String sign = signAt(bytes, p, bytes.length);
                if (sign == null) {
                    return Result.fault(2, p);
                }
                out.append(sign);
                p += Bench.utf8(sign).length;
                continue;
            }
            String rest = text.substring(p);
            Matcher pair = Pattern.compile("\\\\u([dD][89abAB]..)\\\\u([dD][c-fC-F]..)", Pattern.DOTALL).matcher(rest);
            if (rest.length() > 1 && "\"\\/bfnrt".indexOf(rest.charAt(1)) >= 0) {
                out.append("\"\\/\b\f\n\r\t".charAt("\"\\/bfnrt".indexOf(rest.charAt(1))));
                p += 2;
            } else if (rest.matches("(?s)\\\\u[0-9a-fA-F]{4}.*")) {
                int code = Integer.parseInt(rest.substring(2, 6), 16);
                if (!Character.isSurrogate((char) code)) {
                    out.append((char) code);
                    p += 6;
                } else if (pair.lookingAt() && rest.matches("(?s).{8}[0-9a-fA-F]{4}.*")) {
                    out.append((char) code).append((char) Integer.parseInt(rest.substring(8, 12), 16));
                    p += 12;
                } else {
                    return Result.fault(2, p);
                }
            } else {
                Matcher good = Pattern.compile("\\\\(u[0-9a-fA-F]{0,3})?").matcher(rest);
                good.lookingAt();
                return Result.fault(1, p + good.end());
            }
        }
        return Result.fault(1, text.length());
    }

    /** The one sign that the library's strict decoder reads at a place; null if there is none. */
    private static String signAt(byte[] bytes, int place, int limit) {
        for (int length = 1; length <= 4 && place + length <= limit; length++) {
            try {
                return StandardCharsets.UTF_8.newDecoder().decode(ByteBuffer.wrap(bytes, place, length)).toString();
            } catch (CharacterCodingException e) {
                // perhaps a longer one
            }
        }
        return null;
    }

    // ---- reading CBOR: a stack of what is open, each with the number of parts that it lacks

    private static Result readCbor(byte[] bytes, int depth) {
        Deque<Node> open = new ArrayDeque<>();
        int p = 0;
        while (true) {
            if (p >= bytes.length) {
                return Result.fault(1, bytes.length);
            }
            int start = p;
            int type = (bytes[p] & 0xE0) / 32;
            int info = bytes[p] & 0x1F;
            boolean isKey = !open.isEmpty() && open.peek().isMap && open.peek().parts.size() % 2 == 0;
            if (List.of(28, 29, 30).contains(info) || info == 31 && List.of(0, 1, 7).contains(type)) {
                return Result.fault(1, start);
            }
            if (List.of(2, 6).contains(type) || type == 7 && !List.of(20, 21, 22).contains(info) || isKey && type != 3) {
                return Result.fault(2, start);
            }
            if (info == 31) {
                return Result.fault(6, start);
            }
            int behind = new int[] {0, 1, 2, 4, 8}[Math.max(0, info - 23)];
            if (start + 1 + behind > bytes.length) {
                return Result.fault(1, bytes.length);
            }
            p = start + 1 + behind;
            BigInteger number = behind == 0 ? BigInteger.valueOf(info) : new BigInteger(1, Arrays.copyOfRange(bytes, start + 1, p));
            if (head(type, number).length < 1 + behind) {
                return Result.fault(6, start);
            }
            Object got;
            if (type == 4 || type == 5) {
                if (open.size() >= depth) {
                    return Result.fault(4, start);
                }
                Node node = new Node(type == 5);
                node.lacking = type == 5 ? number.shiftLeft(1) : number;
                if (node.lacking.signum() > 0) {
                    open.push(node);
                    continue;
                }
                got = node;
            } else if (type == 3) {
                if (number.compareTo(BigInteger.valueOf(bytes.length - p)) > 0) {
                    return Result.fault(1, bytes.length);
                }
                int limit = p + number.intValue();
                StringBuilder text = new StringBuilder();
                while (p < limit) {
                    String sign = signAt(bytes, p, limit);
                    if (sign == null) {
                        return Result.fault(3, p);
                    }
                    text.append(sign);
                    p += Bench.utf8(sign).length;
                }
                got = text.toString();
            } else if (type == 7) {
                got = info == 20 ? -1 : info == 21 ? 1 : 0;
            } else {
                got = type == 0 ? number : number.not();
            }
            while (!open.isEmpty()) {
                Node node = open.peek();
                node.parts.add(got);
                node.lacking = node.lacking.subtract(BigInteger.ONE);
                if (node.lacking.signum() > 0) {
                    break;
                }
                got = open.pop();
            }
            if (open.isEmpty()) {
                if (p < bytes.length) {
                    return Result.fault(1, p);
                }
                Result result = new Result();
                result.tree = got;
                return result;
            }
        }
    }
}
