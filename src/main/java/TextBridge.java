/** A bridge between JSON texts and CBOR, for what both have alike. */
public final class TextBridge {
    public static final int NONE = -1;

    private static final int TAPE_LIMIT = 4000;
    private static final int ROOM_LIMIT = 6000;
    private static final int DEPTH_LIMIT = 40;
    private static final int FIRST_DEPTH = 20;
    private static final int FIRST_ROOM = 4000;
    private static final int FEED_BYTES = 20;

    private static final int NO_FAULT = 0;
    private static final int MALFORMED = 1;
    private static final int TOO_DEEP = 4;
    private static final int TOO_LONG = 5;

    private static final int UNSIGNED = 0;
    private static final int NEGATIVE = 1;
    private static final int BYTES = 2;
    private static final int TEXT = 3;
    private static final int ARRAY = 4;
    private static final int MAP = 5;
    private static final int TAG = 6;
    private static final int SIMPLE = 7;

    private static final int FALSE = 20;
    private static final int TRUE = 21;
    private static final int NULL = 22;

    private final Row tape;
    private final Row written;
    // Keeps no bytes: what is written changes only when it is known that there is no fault.
    private final Row measure;
    private int depth;
    private int room;
    private int faultPlace;

    public TextBridge() {
        tape = new Row(TAPE_LIMIT);
        written = new Row(ROOM_LIMIT);
        measure = new Row(0);
        depth = FIRST_DEPTH;
        room = FIRST_ROOM;
        faultPlace = NONE;
    }

    public int feed(int a, int b, int c, int d, int e) {
        if (tape.size() + FEED_BYTES > TAPE_LIMIT) {
            return NONE;
        }
        tape.putFour(a);
        tape.putFour(b);
        tape.putFour(c);
        tape.putFour(d);
        tape.putFour(e);
        return tape.size();
    }

    public int end(int n) {
        if (n < 0 || n > tape.size()) {
            return NONE;
        }
        tape.cutTo(n);
        return n;
    }

    public boolean bounds(int depth, int room) {
        if (depth < 0 || depth > DEPTH_LIMIT || room < 0 || room > ROOM_LIMIT) {
            return false;
        }
        this.depth = depth;
        this.room = room;
        return true;
    }

    public int toCbor() {
        measure.cutTo(0);
        JsonReader trial = new JsonReader(tape, measure, depth);
        boolean isWhole = trial.readValue(0) && trial.readEnd();
        if (isRefused(trial, isWhole)) {
            return -trial.faultKind();
        }
        written.cutTo(0);
        new JsonReader(tape, written, depth).readValue(0);
        return written.size();
    }

    public int toJson() {
        measure.cutTo(0);
        CborReader trial = new CborReader(tape, measure, depth);
        boolean isWhole = trial.readItem(0) && trial.readEnd();
        if (isRefused(trial, isWhole)) {
            return -trial.faultKind();
        }
        written.cutTo(0);
        new CborReader(tape, written, depth).readItem(0);
        return written.size();
    }

    public int errorAt() {
        return faultPlace;
    }

    public int out(int i) {
        return written.at(i);
    }

    public int outSize() {
        return written.size();
    }

    public int take() {
        if (written.size() > TAPE_LIMIT) {
            return NONE;
        }
        tape.copyFrom(written);
        return tape.size();
    }

    private boolean isRefused(Reader trial, boolean isWhole) {
        // The room is looked at last: a fault anywhere in the tape goes ahead of it.
        if (isWhole && measure.size() > room) {
            trial.refuse(TOO_LONG, tape.size());
        }
        faultPlace = trial.faultPlace();
        return trial.faultKind() != NO_FAULT;
    }

    /** Bytes one behind the other. Those beyond the capacity are counted, but not kept. */
    private static final class Row {
        private final byte[] bytes;
        private int size;

        Row(int capacity) {
            bytes = new byte[Math.max(capacity, 0)];
            size = 0;
        }

        int size() {
            return size;
        }

        int at(int place) {
            if (place < 0 || place >= size || place >= bytes.length) {
                return NONE;
            }
            return bytes[place] & 255;
        }

        void put(int value) {
            if (size >= 0 && size < bytes.length) {
                bytes[size] = (byte) value;
            }
            size++;
        }

        void putFour(int value) {
            put(value >>> 24);
            put(value >>> 16);
            put(value >>> 8);
            put(value);
        }

        void putWord(String word) {
            for (int i = 0; i < word.length(); i++) {
                put(word.charAt(i));
            }
        }

        void cutTo(int newSize) {
            if (newSize >= 0 && newSize <= size) {
                size = newSize;
            }
        }

        void copyFrom(Row other) {
            int kept = Math.min(other.size, Math.min(other.bytes.length, bytes.length));
            System.arraycopy(other.bytes, 0, bytes, 0, kept);
            size = kept;
        }

        /** Puts a byte that closeHead overwrites, since a head stands ahead of what it counts. */
        int openHead() {
            put(0);
            return size - 1;
        }

        void closeHead(int place, int type, long number) {
            int info = shortestInfo(number);
            int behind = bytesBehind(info);
            makeGap(place + 1, behind);
            set(place, type << 5 | info);
            for (int i = 0; i < behind; i++) {
                set(place + 1 + i, (int) (number >>> 8 * (behind - 1 - i)));
            }
        }

        void putHead(int type, long number) {
            closeHead(openHead(), type, number);
        }

        private void makeGap(int place, int length) {
            int moved = Math.min(size, bytes.length - length) - place;
            if (place >= 0 && length > 0 && moved > 0) {
                System.arraycopy(bytes, place, bytes, place + length, moved);
            }
            size += length;
        }

        private void set(int place, int value) {
            if (place >= 0 && place < size && place < bytes.length) {
                bytes[place] = (byte) value;
            }
        }
    }

    /** What the lowest five bits of the shortest head for a number are; a number below 0 stands for 2^64 more. */
    private static int shortestInfo(long number) {
        if (number < 0 || number > 0xFFFFFFFFL) {
            return 27;
        }
        if (number < 24) {
            return (int) number;
        }
        if (number < 0x100) {
            return 24;
        }
        return number < 0x10000 ? 25 : 26;
    }

    private static int bytesBehind(int info) {
        return info < 24 || info > 27 ? 0 : 1 << (info - 24);
    }

    /** How many bytes the UTF-8 sign at a place has; 0 if what stands there, ahead of the limit, is none. */
    private static int signLength(Row row, int place, int limit) {
        int first = row.at(place);
        int length = lengthByFirst(first);
        if (length < 2) {
            return length;
        }
        if (length > limit - place) {
            return 0;
        }
        int code = first & (0xFF >> (length + 1));
        for (int i = 1; i < length; i++) {
            int next = row.at(place + i);
            if (next < 0x80 || next > 0xBF) {
                return 0;
            }
            code = code << 6 | next & 0x3F;
        }
        return isSignOf(code, length) ? length : 0;
    }

    private static int lengthByFirst(int first) {
        if (first < 0 || first > 0xF4) {
            return 0;
        }
        if (first < 0x80) {
            return 1;
        }
        if (first < 0xC2) {
            return 0;
        }
        if (first < 0xE0) {
            return 2;
        }
        return first < 0xF0 ? 3 : 4;
    }

    private static boolean isSignOf(int code, int length) {
        if (length == 3) {
            return code >= 0x800 && (code < 0xD800 || code > 0xDFFF);
        }
        if (length == 4) {
            return code >= 0x10000 && code <= 0x10FFFF;
        }
        return true;
    }

    /** Goes along the tape, writes what it finds, and stops at the first fault. */
    private abstract static class Reader {
        final Row tape;
        final Row target;
        final int depthLimit;
        int place;
        private int faultKind;
        private int faultPlace;

        Reader(Row tape, Row target, int depthLimit) {
            this.tape = tape;
            this.target = target;
            this.depthLimit = depthLimit;
            place = 0;
            faultKind = NO_FAULT;
            faultPlace = NONE;
        }

        /** Answers false, for the reading methods to hand on. */
        boolean refuse(int kind, int at) {
            faultKind = kind;
            faultPlace = at;
            return false;
        }

        int faultKind() {
            return faultKind;
        }

        int faultPlace() {
            return faultPlace;
        }
    }

    /** Reads a JSON text and writes it as CBOR. Its methods answer false at a fault. */
    private static final class JsonReader extends Reader {
        private static final int NO_SIGN = 2;
        private static final int NO_WHOLE_NUMBER = 3;
        // 2^64 is 18446744073709551616: its first 19 digits and its last.
        private static final long LIMIT_FIRST = 1844674407370955161L;
        private static final int LIMIT_LAST = 6;
        private static final int LIMIT_DIGITS = 20;

        JsonReader(Row tape, Row target, int depthLimit) {
            super(tape, target, depthLimit);
        }

        boolean readEnd() {
            skipBlanks();
            return place == tape.size() || refuse(MALFORMED, place);
        }

        boolean readValue(int depth) {
            skipBlanks();
            int sign = tape.at(place);
            switch (sign) {
                case '"':
                    return readString();
                case '[':
                    return readParts(ARRAY, ']', depth);
                case '{':
                    return readParts(MAP, '}', depth);
                case 'f':
                    return readWord("false", FALSE);
                case 't':
                    return readWord("true", TRUE);
                case 'n':
                    return readWord("null", NULL);
                default:
                    return sign == '-' || isDigit(sign) ? readNumber() : refuse(MALFORMED, place);
            }
        }

        private void skipBlanks() {
            for (int i = place; i < tape.size() && isBlank(tape.at(i)); i++) {
                place = i + 1;
            }
        }

        private boolean readWord(String word, int simple) {
            for (int i = 0; i < word.length(); i++) {
                if (tape.at(place) != word.charAt(i)) {
                    return refuse(MALFORMED, place);
                }
                place++;
            }
            target.putHead(SIMPLE, simple);
            return true;
        }

        private boolean readParts(int type, int close, int depth) {
            if (depth >= depthLimit) {
                return refuse(TOO_DEEP, place);
            }
            int head = target.openHead();
            place++;
            skipBlanks();
            if (tape.at(place) == close) {
                return closeParts(head, type, 0);
            }
            // A part has a byte at least, so that there are never more parts than bytes.
            for (int count = 1; count <= tape.size(); count++) {
                if (type == MAP && !readKey() || !readValue(depth + 1)) {
                    return false;
                }
                skipBlanks();
                int sign = tape.at(place);
                if (sign == close) {
                    return closeParts(head, type, count);
                }
                if (sign != ',') {
                    return refuse(MALFORMED, place);
                }
                place++;
            }
            return refuse(MALFORMED, place);
        }

        private boolean closeParts(int head, int type, int count) {
            place++;
            target.closeHead(head, type, count);
            return true;
        }

        private boolean readKey() {
            skipBlanks();
            if (tape.at(place) != '"') {
                return refuse(MALFORMED, place);
            }
            if (!readString()) {
                return false;
            }
            skipBlanks();
            if (tape.at(place) != ':') {
                return refuse(MALFORMED, place);
            }
            place++;
            return true;
        }

        private boolean readString() {
            int head = target.openHead();
            int start = target.size();
            place++;
            for (int i = 0; i <= tape.size(); i++) {
                int sign = tape.at(place);
                if (sign == '"') {
                    place++;
                    target.closeHead(head, TEXT, target.size() - start);
                    return true;
                }
                boolean isNumbered = sign == '\\' && tape.at(place + 1) == 'u';
                if (!(isNumbered ? readNumberedSign() : sign == '\\' ? readLetter() : readPlainSign(sign))) {
                    return false;
                }
            }
            return refuse(MALFORMED, place);
        }

        private boolean readPlainSign(int first) {
            if (first < 32) {
                return refuse(MALFORMED, place);
            }
            int length = signLength(tape, place, tape.size());
            if (length == 0) {
                return refuse(NO_SIGN, place);
            }
            for (int i = 0; i < length; i++) {
                target.put(tape.at(place + i));
            }
            place += length;
            return true;
        }

        private boolean readLetter() {
            int sign = signOf(tape.at(place + 1));
            if (sign == NONE) {
                return refuse(MALFORMED, place + 1);
            }
            target.put(sign);
            place += 2;
            return true;
        }

        private static int signOf(int letter) {
            switch (letter) {
                case '"':
                case '\\':
                case '/':
                    return letter;
                case 'b':
                    return 8;
                case 'f':
                    return 12;
                case 'n':
                    return 10;
                case 'r':
                    return 13;
                case 't':
                    return 9;
                default:
                    return NONE;
            }
        }

        private boolean readNumberedSign() {
            for (int i = place + 2; i < place + 6; i++) {
                if (hexValue(tape.at(i)) == NONE) {
                    return refuse(MALFORMED, i);
                }
            }
            int code = codeOfEscape(place);
            if (isSecondHalf(code)) {
                return refuse(NO_SIGN, place);
            }
            if (!isFirstHalf(code)) {
                putSign(code);
                place += 6;
                return true;
            }
            int second = codeOfEscape(place + 6);
            if (!isSecondHalf(second)) {
                return refuse(NO_SIGN, place);
            }
            putSign(0x10000 + ((code - 0xD800) << 10) + (second - 0xDC00));
            place += 12;
            return true;
        }

        /** The number in a whole escape of a sign by its number; NONE if none stands there. */
        private int codeOfEscape(int start) {
            if (tape.at(start) != '\\' || tape.at(start + 1) != 'u') {
                return NONE;
            }
            int code = 0;
            for (int i = start + 2; i < start + 6; i++) {
                int digit = hexValue(tape.at(i));
                if (digit == NONE) {
                    return NONE;
                }
                code = code * 16 + digit;
            }
            return code;
        }

        private void putSign(int code) {
            if (code < 0x80) {
                target.put(code);
                return;
            }
            int behind = code < 0x800 ? 1 : code < 0x10000 ? 2 : 3;
            // The first byte begins with as many ones as the sign has bytes.
            target.put(0xFF00 >> (behind + 1) | code >> 6 * behind);
            for (int i = behind - 1; i >= 0; i--) {
                target.put(0x80 | code >> 6 * i & 0x3F);
            }
        }

        /** Goes along the number to its end first: what is none is malformed, however it began. */
        private boolean readNumber() {
            int start = place;
            if (tape.at(place) == '-') {
                place++;
            }
            int digits = place;
            if (tape.at(place) == '0') {
                place++;
            } else if (!readDigits()) {
                return false;
            }
            int end = place;
            if (!readFraction() || !readExponent()) {
                return false;
            }
            boolean isWhole = place == end;
            return isWhole && putWhole(digits, end, digits > start) || refuse(NO_WHOLE_NUMBER, start);
        }

        private boolean readDigits() {
            int start = place;
            for (int i = start; i < tape.size() && isDigit(tape.at(i)); i++) {
                place = i + 1;
            }
            return place > start || refuse(MALFORMED, place);
        }

        private boolean readFraction() {
            if (tape.at(place) != '.') {
                return true;
            }
            place++;
            return readDigits();
        }

        private boolean readExponent() {
            if (tape.at(place) != 'e' && tape.at(place) != 'E') {
                return true;
            }
            place++;
            if (tape.at(place) == '+' || tape.at(place) == '-') {
                place++;
            }
            return readDigits();
        }

        /** Answers false, and writes nothing, if the number is beyond what CBOR can hold. */
        private boolean putWhole(int start, int end, boolean hasMinus) {
            long size = 0;
            for (int i = start; i < end; i++) {
                int digit = tape.at(i) - '0';
                if (isBeyond(size, i - start, digit, hasMinus)) {
                    return false;
                }
                size = size * 10 + digit;
            }
            // -0 is told by its digit: of -2^64 the size has wrapped to 0, too, and one less is 2^64 - 1 again.
            if (hasMinus && tape.at(start) != '0') {
                target.putHead(NEGATIVE, size - 1);
            } else {
                target.putHead(UNSIGNED, size);
            }
            return true;
        }

        /** Whether a digit more behind count digits, the first of them no 0, leads beyond what CBOR can hold. */
        private static boolean isBeyond(long size, int count, int digit, boolean negative) {
            if (count < LIMIT_DIGITS - 1) {
                return false;
            }
            if (count >= LIMIT_DIGITS || size < 0 || size > LIMIT_FIRST) {
                return true;
            }
            return size == LIMIT_FIRST && digit > (negative ? LIMIT_LAST : LIMIT_LAST - 1);
        }

        private static boolean isBlank(int sign) {
            return sign == 9 || sign == 10 || sign == 13 || sign == 32;
        }

        private static boolean isDigit(int sign) {
            return sign >= '0' && sign <= '9';
        }

        private static int hexValue(int sign) {
            if (sign >= '0' && sign <= '9') {
                return sign - '0';
            }
            if (sign >= 'a' && sign <= 'f') {
                return sign - 'a' + 10;
            }
            return sign >= 'A' && sign <= 'F' ? sign - 'A' + 10 : NONE;
        }

        private static boolean isFirstHalf(int code) {
            return code >= 0xD800 && code <= 0xDBFF;
        }

        private static boolean isSecondHalf(int code) {
            return code >= 0xDC00 && code <= 0xDFFF;
        }
    }

    /** Reads one item of CBOR and writes it as JSON. Its methods answer false at a fault. */
    private static final class CborReader extends Reader {
        private static final int OTHER_KIND = 2;
        private static final int NO_TEXT = 3;
        private static final int OTHER_HEAD = 6;
        private static final int OPEN_LENGTH = 31;
        private static final String HEX_DIGITS = "0123456789abcdef";

        // Of the head that was read last.
        private int type;
        private long number;

        CborReader(Row tape, Row target, int depthLimit) {
            super(tape, target, depthLimit);
            type = UNSIGNED;
            number = 0;
        }

        boolean readEnd() {
            return place == tape.size() || refuse(MALFORMED, place);
        }

        boolean readItem(int depth) {
            int start = place;
            if (!readHead(false)) {
                return false;
            }
            switch (type) {
                case UNSIGNED:
                    putDecimal(number);
                    return true;
                case NEGATIVE:
                    putNegative(number);
                    return true;
                case TEXT:
                    return readText();
                case ARRAY:
                case MAP:
                    return depth < depthLimit ? readParts(depth + 1) : refuse(TOO_DEEP, start);
                default:
                    target.putWord(number == FALSE ? "false" : number == TRUE ? "true" : "null");
                    return true;
            }
        }

        private boolean readHead(boolean isKey) {
            int first = tape.at(place);
            if (first == NONE) {
                return refuse(MALFORMED, tape.size());
            }
            type = first >> 5;
            int info = first & 31;
            int kind = faultOfFirst(info, isKey);
            if (kind != NO_FAULT) {
                return refuse(kind, place);
            }
            int behind = bytesBehind(info);
            if (behind >= tape.size() - place) {
                return refuse(MALFORMED, tape.size());
            }
            number = behind == 0 ? info : numberBehind(behind);
            if (behind > 0 && shortestInfo(number) != info) {
                return refuse(OTHER_HEAD, place);
            }
            place += 1 + behind;
            return true;
        }

        private int faultOfFirst(int info, boolean isKey) {
            boolean hasNoOpenLength = type == UNSIGNED || type == NEGATIVE || type == SIMPLE;
            if (info > 27 && (info < OPEN_LENGTH || hasNoOpenLength)) {
                return MALFORMED;
            }
            if (type == BYTES || type == TAG || isKey && type != TEXT) {
                return OTHER_KIND;
            }
            if (type == SIMPLE && (info < FALSE || info > NULL)) {
                return OTHER_KIND;
            }
            return info == OPEN_LENGTH ? OTHER_HEAD : NO_FAULT;
        }

        private long numberBehind(int count) {
            long value = 0;
            for (int i = 1; i <= count; i++) {
                value = value << 8 | tape.at(place + i);
            }
            return value;
        }

        private boolean readParts(int depth) {
            boolean isMap = type == MAP;
            // A part has a byte at least: of more parts than bytes one lacks in any case.
            int count = isWithin(number, tape.size()) ? (int) number : tape.size() + 1;
            target.put(isMap ? '{' : '[');
            for (int i = 0; i < count; i++) {
                if (i > 0) {
                    target.put(',');
                }
                if (isMap && !readKey() || !readItem(depth)) {
                    return false;
                }
            }
            target.put(isMap ? '}' : ']');
            return true;
        }

        private boolean readKey() {
            if (!readHead(true) || !readText()) {
                return false;
            }
            target.put(':');
            return true;
        }

        private boolean readText() {
            if (!isWithin(number, tape.size() - place)) {
                return refuse(MALFORMED, tape.size());
            }
            int bytes = (int) number;
            int limit = place + bytes;
            target.put('"');
            for (int i = 0; i < bytes && place < limit; i++) {
                int length = signLength(tape, place, limit);
                if (length == 0) {
                    return refuse(NO_TEXT, place);
                }
                putSign(length);
            }
            target.put('"');
            return true;
        }

        /** A number below 0 stands for 2^64 more. */
        private static boolean isWithin(long number, int limit) {
            return number >= 0 && number <= limit;
        }

        private void putSign(int length) {
            if (length == 1) {
                putShortSign(tape.at(place));
            } else {
                for (int i = 0; i < length; i++) {
                    target.put(tape.at(place + i));
                }
            }
            place += length;
        }

        private void putShortSign(int sign) {
            int letter = letterOf(sign);
            if (letter != NONE) {
                target.put('\\');
                target.put(letter);
            } else if (sign < 32) {
                target.put('\\');
                target.put('u');
                target.put('0');
                target.put('0');
                target.put(HEX_DIGITS.charAt(sign >> 4 & 15));
                target.put(HEX_DIGITS.charAt(sign & 15));
            } else {
                target.put(sign);
            }
        }

        private static int letterOf(int sign) {
            switch (sign) {
                case '"':
                case '\\':
                    return sign;
                case 8:
                    return 'b';
                case 9:
                    return 't';
                case 10:
                    return 'n';
                case 12:
                    return 'f';
                case 13:
                    return 'r';
                default:
                    return NONE;
            }
        }

        private void putDecimal(long value) {
            long tens = tenthOf(value);
            putDigits(tens, (int) (value - tens * 10));
        }

        /** Writes -1 less the value; one more than the value may be too much for a long. */
        private void putNegative(long value) {
            long tens = tenthOf(value);
            int last = (int) (value - tens * 10);
            target.put('-');
            if (last == 9) {
                putDigits(tens + 1, 0);
            } else {
                putDigits(tens, last + 1);
            }
        }

        /** Halved first, since a value below 0 stands for 2^64 more. */
        private static long tenthOf(long value) {
            return (value >>> 1) / 5;
        }

        private void putDigits(long tens, int last) {
            long power = 1;
            for (int i = 1; i < 19 && power <= tens / 10; i++) {
                power *= 10;
            }
            long rest = tens;
            for (int i = 0; i < 19 && power > 0 && tens > 0; i++) {
                target.put('0' + (int) (rest / power));
                rest %= power;
                power /= 10;
            }
            target.put('0' + last);
        }
    }
}
