import java.util.ArrayList;
import java.util.Arrays;

/**
 * A multiplexer for language tools: it stands between two editors and up to three servers, keeps the
 * documents that are open, and merges the answers of the servers. All messages wait in channels.
 */
public final class ToolPlex {
    public static final int WAITING = 0, SHOWN = 1, CANCELLED = 2, STALE = 3, NOBODY = 4;
    public static final int OPEN = 0, CHANGE = 1, CLOSE = 2, REQUEST = 3, CANCEL = 4, ANSWER = 5, FAULTS = 6;

    private static final int COMPLETION = 0, HOVER = 1, DEFINITION = 2, TOKENS = 3, RENAME = 4, EXTRACT = 5;
    private static final int NUMBERS = 1, BOTH = 2;
    private static final int EDITORS = 2, MOST_SERVERS = 3, MOST_FILES = 6, MOST_UNITS = 100, MOST_REQUESTS = 40;
    private static final int LANGUAGES = 3, FARTHEST = 1000, NONE = -1;
    private static final int TO_SERVERS = 2, FROM_SERVERS = 5, TO_EDITORS = 8, CHANNELS = 10;
    private static final int MULTIPLEXER = 2, FIRST_SERVER = 3;
    private static final int TOKEN_NUMBERS = 4;
    private static final int PLENTY = 1000000;
    private static final int[] NOTHING = {};

    private final Files files;
    private final Channel[] channels;
    private final Editor[] editors;
    private final ArrayList<Server> servers;
    private final Multiplexer multiplexer;
    private final Text scratch = new Text();

    public ToolPlex() {
        Files allFiles = new Files();
        ArrayList<Server> allServers = new ArrayList<Server>();
        Channel[] allChannels = new Channel[CHANNELS];
        for (int i = 0; i < CHANNELS; i++) {
            allChannels[i] = new Channel();
        }
        Editor[] allEditors = new Editor[EDITORS];
        for (int i = 0; i < EDITORS; i++) {
            allEditors[i] = new Editor(i, allFiles, allChannels[i]);
        }
        multiplexer = new Multiplexer(allFiles, allServers, allChannels);
        files = allFiles;
        servers = allServers;
        channels = allChannels;
        editors = allEditors;
    }

    // ---- files and servers

    public int file(int name, int language) throws IllegalArgumentException, IllegalStateException {
        if (!Text.isLetter(name) || language < 0 || language >= LANGUAGES) {
            throw new IllegalArgumentException("no such name or language");
        }
        if (files.isFull() || files.named(name) != NONE) {
            throw new IllegalStateException("too many files, or the name is taken");
        }
        return files.add(name, language);
    }

    public int store(int file, int code)
            throws IndexOutOfBoundsException, IllegalArgumentException, IllegalStateException {
        checkFile(file);
        checkCode(code);
        Text text = files.textOf(file);
        if (files.holderOf(file) != NONE || !text.canReplace(text.size(), text.size(), code)) {
            throw new IllegalStateException("the file is open, or its text too long");
        }
        text.replace(text.size(), text.size(), code);
        return text.size();
    }

    public int server(int kinds, int languages, int style) throws IllegalArgumentException, IllegalStateException {
        if (kinds < 1 || kinds > 63 || languages < 1 || languages > 7 || style < 0 || style > BOTH) {
            throw new IllegalArgumentException("no such kinds, languages or style");
        }
        int number = servers.size();
        if (number >= MOST_SERVERS || files.isAnyHeld() || multiplexer.hasCopies()) {
            throw new IllegalStateException("too many servers, or a document is open");
        }
        Server added = new Server(kinds, languages, style, files);
        servers.add(added);
        return number;
    }

    public char name(int file) throws IndexOutOfBoundsException {
        checkFile(file);
        return files.nameOf(file);
    }

    // ---- editors

    public int open(int editor, int file) throws IndexOutOfBoundsException, IllegalStateException {
        Editor by = editorAt(editor);
        checkFile(file);
        if (files.holderOf(file) != NONE) {
            throw new IllegalStateException("an editor has the file open");
        }
        return by.begin(file);
    }

    public void close(int editor, int file) throws IndexOutOfBoundsException, IllegalStateException {
        Editor by = editorAt(editor);
        checkFile(file);
        checkOpen(by, file);
        by.finish(file);
    }

    public int change(int editor, int file, int line, int unit, int toLine, int toUnit, int code)
            throws IndexOutOfBoundsException, IllegalArgumentException, IllegalStateException {
        Editor by = editorAt(editor);
        checkFile(file);
        checkPosition(line, unit);
        checkPosition(toLine, toUnit);
        if (code != NONE) {
            checkCode(code);
        }
        checkOpen(by, file);
        Text text = by.copyOf(file).text;
        if (!text.canReplace(text.placeOf(line, unit), text.placeOf(toLine, toUnit), code)) {
            throw new IllegalStateException("the second place is ahead of the first, or the text too long");
        }
        Message message = new Message(CHANGE, file);
        message.line = line;
        message.unit = unit;
        message.toLine = toLine;
        message.toUnit = toUnit;
        message.code = code;
        return by.alter(message);
    }

    public int request(int editor, int kind, int file, int line, int unit, int letter)
            throws IndexOutOfBoundsException, IllegalArgumentException, IllegalStateException {
        Editor by = editorAt(editor);
        checkFile(file);
        if (kind < COMPLETION || kind > EXTRACT || isEdit(kind) && !Text.isLetter(letter)) {
            throw new IllegalArgumentException("no such kind or letter");
        }
        checkPosition(line, unit);
        checkOpen(by, file);
        if (by.asked() >= MOST_REQUESTS) {
            throw new IllegalStateException("too many requests");
        }
        Message message = new Message(REQUEST, file);
        message.asked = kind;
        message.line = line;
        message.unit = unit;
        message.code = letter;
        return by.ask(message);
    }

    public void cancel(int editor, int request) throws IndexOutOfBoundsException, IllegalStateException {
        Editor by = editorAt(editor);
        Ask ask = askAt(by, request);
        if (ask.standing != WAITING) {
            throw new IllegalStateException("the request does not wait");
        }
        by.withdraw(request, ask);
    }

    public int apply(int editor, int request) throws IndexOutOfBoundsException, IllegalStateException {
        Editor by = editorAt(editor);
        Ask ask = askAt(by, request);
        if (!isEdit(ask.kind) || ask.standing != SHOWN || ask.items.size() == 0) {
            throw new IllegalStateException("there is no edit to apply");
        }
        if (!by.canApply(ask)) {
            throw new IllegalStateException("the name is taken, or there are too many files");
        }
        return ask.kind == RENAME ? by.applyRename(ask) : by.applyExtract(ask);
    }

    // ---- servers at work

    public int answer(int server, int index) throws IndexOutOfBoundsException {
        Server at = serverAt(server);
        if (index < 0 || index >= at.requests()) {
            throw new IndexOutOfBoundsException("no such request");
        }
        Message message = at.answerTo(index);
        send(FROM_SERVERS + server, message);
        return message.items.size();
    }

    public int tellFaults(int server, int file) throws IndexOutOfBoundsException, IllegalStateException {
        Server at = serverAt(server);
        checkFile(file);
        if (!at.copyOf(file).isHere()) {
            throw new IllegalStateException("the server has no copy");
        }
        Message message = at.faultsOf(file);
        send(FROM_SERVERS + server, message);
        return message.items.size();
    }

    public int crash(int server) throws IndexOutOfBoundsException, IllegalStateException {
        Server at = serverAt(server);
        if (!at.up) {
            throw new IllegalStateException("the server is not up");
        }
        at.fall();
        int lost = lose(TO_SERVERS + server) + lose(FROM_SERVERS + server);
        multiplexer.miss(server);
        return lost;
    }

    public int start(int server) throws IndexOutOfBoundsException, IllegalStateException {
        Server at = serverAt(server);
        if (at.up) {
            throw new IllegalStateException("the server is up");
        }
        at.up = true;
        return multiplexer.giveCopies(server, at);
    }

    public int deliver(int channel) throws IndexOutOfBoundsException {
        checkChannel(channel);
        return pass(channel);
    }

    public int deliverAll() {
        int delivered = 0;
        for (int left = PLENTY; left > 0; left--) {
            int channel = lowestChannel();
            if (channel == NONE) {
                return delivered;
            }
            pass(channel);
            delivered++;
        }
        return delivered;
    }

    public int waiting(int channel) throws IndexOutOfBoundsException {
        checkChannel(channel);
        return held(channel);
    }

    // ---- copies

    public int version(int whose, int file) throws IndexOutOfBoundsException {
        checkFile(file);
        return copyFor(whose, file).version;
    }

    public char unit(int whose, int file, int place) throws IndexOutOfBoundsException {
        checkFile(file);
        Copy copy = copyFor(whose, file);
        int unit = copy.text.at(place);
        if (!copy.isHere() || unit == NONE) {
            throw new IndexOutOfBoundsException("no such copy or unit");
        }
        return (char) unit;
    }

    public boolean agree(int file) throws IndexOutOfBoundsException {
        checkFile(file);
        int holder = files.holderOf(file);
        if (holder < 0 || holder >= editors.length) {
            return true;
        }
        Copy kept = editors[holder].copyOf(file);
        boolean agreed = kept.agreesWith(multiplexer.copyOf(file), scratch);
        for (int i = 0; i < servers.size(); i++) {
            agreed = agreed && kept.agreesWith(servers.get(i).copyOf(file), scratch);
        }
        return agreed;
    }

    // ---- answers and faults

    public int standing(int editor, int request) throws IndexOutOfBoundsException {
        Ask ask = askAt(editorAt(editor), request);
        return ask.standing == SHOWN ? 10 * ask.items.size() + SHOWN : ask.standing;
    }

    public int item(int editor, int request, int index) throws IndexOutOfBoundsException {
        Editor by = editorAt(editor);
        Ask ask = askAt(by, request);
        checkItem(ask, index);
        return by.tell(ask.items, index);
    }

    public int value(int editor, int request, int index) throws IndexOutOfBoundsException {
        Ask ask = askAt(editorAt(editor), request);
        checkItem(ask, index);
        return ask.kind == HOVER || ask.kind == TOKENS ? ask.items.valueAt(index) : 0;
    }

    public int token(int editor, int request, int index) throws IndexOutOfBoundsException {
        Editor by = editorAt(editor);
        Ask ask = askAt(by, request);
        if (ask.kind != TOKENS || ask.standing != SHOWN
                || index < 0 || index >= TOKEN_NUMBERS * ask.items.size()) {
            throw new IndexOutOfBoundsException("no such number of tokens");
        }
        return by.tokenNumber(ask, index);
    }

    public int id(int editor, int request, int server) throws IndexOutOfBoundsException {
        Editor by = editorAt(editor);
        askAt(by, request);
        serverAt(server);
        return multiplexer.idOf(editor, request, server);
    }

    public int faults(int editor, int file) throws IndexOutOfBoundsException {
        Editor by = editorAt(editor);
        checkFile(file);
        return by.faultsOf(file).size();
    }

    public int fault(int editor, int file, int index) throws IndexOutOfBoundsException {
        Editor by = editorAt(editor);
        checkFile(file);
        Items shown = by.faultsOf(file);
        if (index < 0 || index >= shown.size()) {
            throw new IndexOutOfBoundsException("no such fault");
        }
        return by.tell(shown, index);
    }

    // ---- checks

    private Editor editorAt(int editor) {
        if (editor < 0 || editor >= editors.length) {
            throw new IndexOutOfBoundsException("no such editor");
        }
        return editors[editor];
    }

    private Server serverAt(int server) {
        if (server < 0 || server >= servers.size()) {
            throw new IndexOutOfBoundsException("no such server");
        }
        return servers.get(server);
    }

    private Ask askAt(Editor by, int request) {
        Ask ask = by.askAt(request);
        if (ask == null) {
            throw new IndexOutOfBoundsException("no such request");
        }
        return ask;
    }

    private Copy copyFor(int whose, int file) {
        if (whose >= FIRST_SERVER) {
            return serverAt(whose - FIRST_SERVER).copyOf(file);
        }
        return whose == MULTIPLEXER ? multiplexer.copyOf(file) : editorAt(whose).copyOf(file);
    }

    private void checkFile(int file) {
        if (!files.has(file)) {
            throw new IndexOutOfBoundsException("no such file");
        }
    }

    private void checkChannel(int channel) {
        if (channel < 0 || channel >= channels.length) {
            throw new IndexOutOfBoundsException("no such channel");
        }
    }

    private void checkItem(Ask ask, int index) {
        if (ask.standing != SHOWN || index < 0 || index >= ask.items.size()) {
            throw new IndexOutOfBoundsException("no such item");
        }
    }

    private void checkCode(int code) {
        if (!Text.isCharacter(code)) {
            throw new IllegalArgumentException("no such character");
        }
    }

    private void checkPosition(int line, int unit) {
        if (line < 0 || line > FARTHEST || unit < 0 || unit > FARTHEST) {
            throw new IllegalArgumentException("no such position");
        }
    }

    private void checkOpen(Editor by, int file) {
        if (!by.copyOf(file).isHere()) {
            throw new IllegalStateException("the editor does not have the file open");
        }
    }

    private static boolean isEdit(int kind) {
        return kind == RENAME || kind == EXTRACT;
    }

    /** Whether the items of an answer are moved along, instead of its being stale at once. */
    private static boolean isMoved(int kind) {
        return kind == DEFINITION || kind == TOKENS;
    }

    // ---- channels

    private void send(int channel, Message message) {
        if (channel >= 0 && channel < channels.length) {
            channels[channel].send(message);
        }
    }

    private int lose(int channel) {
        return channel >= 0 && channel < channels.length ? channels[channel].lose() : 0;
    }

    private int held(int channel) {
        return channel >= 0 && channel < channels.length ? channels[channel].size() : 0;
    }

    private int lowestChannel() {
        for (int i = 0; i < channels.length; i++) {
            if (channels[i].size() > 0) {
                return i;
            }
        }
        return NONE;
    }

    /** Delivers the first message of a channel, and tells its kind. */
    private int pass(int channel) {
        if (channel < 0 || channel >= channels.length) {
            return NONE;
        }
        Message message = channels[channel].takeFirst();
        if (message == null) {
            return NONE;
        }
        if (channel >= TO_EDITORS) {
            passToEditor(channel - TO_EDITORS, message);
        } else if (channel >= FROM_SERVERS && message.kind == ANSWER) {
            multiplexer.settle(multiplexer.completedBy(channel - FROM_SERVERS, message));
        } else if (channel >= FROM_SERVERS) {
            multiplexer.takeFaults(channel - FROM_SERVERS, message);
        } else if (channel < TO_SERVERS) {
            multiplexer.takeFromEditor(message);
        } else if (channel - TO_SERVERS < servers.size()) {
            servers.get(channel - TO_SERVERS).take(message);
        }
        return message.kind;
    }

    private void passToEditor(int editor, Message message) {
        if (editor < 0 || editor >= editors.length) {
            return;
        }
        if (message.kind == ANSWER) {
            editors[editor].takeAnswer(message);
        } else {
            editors[editor].takeFaults(message);
        }
    }

    private static int[] versionsOf(Copy[] copies) {
        int[] versions = new int[MOST_FILES];
        for (int i = 0; i < versions.length && i < copies.length; i++) {
            versions[i] = copies[i].version;
        }
        return versions;
    }

    /** A row of units, with the lines and the runs in it. */
    private static final class Text {
        private static final int LETTER = 0, DIGIT = 1, BLANK = 32, LINE_END = 10;
        private static final int FIRST_FACE = 128512, LAST_FACE = 128591;
        private static final int BEYOND = 0x10000, HIGH = 0xD800, LOW = 0xDC00, LOW_BITS = 10, LOW_MASK = 0x3FF;

        private final char[] units = new char[MOST_UNITS];
        private int length;

        static boolean isLetter(int code) {
            return code >= 'a' && code <= 'z';
        }

        static boolean isDigit(int code) {
            return code >= '0' && code <= '9';
        }

        static boolean isFace(int code) {
            return code >= FIRST_FACE && code <= LAST_FACE;
        }

        static boolean isCharacter(int code) {
            return isLetter(code) || isDigit(code) || code == BLANK || code == LINE_END || isFace(code);
        }

        static int unitsOf(int code) {
            if (code == NONE) {
                return 0;
            }
            return code >= FIRST_FACE ? 2 : 1;
        }

        int size() {
            return length;
        }

        /** The unit at a place, NONE if there is none. */
        int at(int place) {
            return place >= 0 && place < length && place < units.length ? units[place] : NONE;
        }

        void takeAll(Text other) {
            takePart(other, 0, other.length);
        }

        void takePart(Text other, int from, int to) {
            if (from < 0 || to < from || to > other.length || to > other.units.length) {
                return;
            }
            System.arraycopy(other.units, from, units, 0, to - from);
            length = to - from;
        }

        boolean canReplace(int from, int to, int code) {
            return from >= 0 && from <= to && to <= length
                    && length - (to - from) + unitsOf(code) <= units.length;
        }

        /** Puts a character, or none, in place of the units from one place up to another. */
        void replace(int from, int to, int code) {
            int added = unitsOf(code);
            if (from < 0 || from > to || to > length || length - (to - from) + added > units.length) {
                return;
            }
            System.arraycopy(units, to, units, from + added, length - to);
            length = length - (to - from) + added;
            if (added == 1 && from < units.length) {
                units[from] = (char) code;
            } else if (added == 2 && from + 1 < units.length) {
                units[from] = (char) (HIGH + ((code - BEYOND) >> LOW_BITS));
                units[from + 1] = (char) (LOW + ((code - BEYOND) & LOW_MASK));
            }
        }

        boolean isSame(Text other) {
            return alike(0, length, other, 0, other.length);
        }

        int placeOf(int line, int unit) {
            int lines = 0;
            int start = 0;
            for (int i = 0; i < length && lines < line; i++) {
                if (at(i) == LINE_END) {
                    lines++;
                    start = i + 1;
                }
            }
            if (lines < line) {
                return length;
            }
            int place = Math.min(start + unit, lineEnd(start));
            boolean isWithinPair = at(place) >= LOW && at(place) <= LOW + LOW_MASK;
            return isWithinPair ? place - 1 : place;
        }

        int lineOf(int place) {
            int lines = 0;
            for (int i = 0; i < place && i < length; i++) {
                if (at(i) == LINE_END) {
                    lines++;
                }
            }
            return lines;
        }

        /** The beginning of the line in which a place is; of the last one for a place behind the text. */
        int lineStart(int place) {
            int start = 0;
            for (int i = 0; i < place && i < length; i++) {
                if (at(i) == LINE_END) {
                    start = i + 1;
                }
            }
            return start;
        }

        /** The end of the line that begins at a place. */
        int lineEnd(int start) {
            for (int i = Math.max(start, 0); i < length && i < units.length; i++) {
                if (units[i] == LINE_END) {
                    return i;
                }
            }
            return length;
        }

        private int sortAt(int place) {
            int unit = place >= 0 && place < length && place < units.length ? units[place] : NONE;
            if (unit >= 'a' && unit <= 'z') {
                return LETTER;
            }
            return unit >= '0' && unit <= '9' ? DIGIT : NONE;
        }

        /** The value of a token: 0 for a word, 1 for a number. */
        int tokenValue(int start) {
            return sortAt(start) == DIGIT ? 1 : 0;
        }

        /** The start of the first run of a style that begins at a place or behind it, NONE if there is none. */
        int nextRun(int from, int style) {
            for (int i = Math.max(from, 0); i < length; i++) {
                int sort = sortAt(i);
                boolean fits = style == BOTH ? sort != NONE : sort == (style == NUMBERS ? DIGIT : LETTER);
                if (fits && sortAt(i - 1) != sort) {
                    return i;
                }
            }
            return NONE;
        }

        int runEnd(int start) {
            int sort = sortAt(start);
            for (int i = start + 1; i < length; i++) {
                if (sortAt(i) != sort) {
                    return i;
                }
            }
            return length;
        }

        /** The start of the run of a style at a place, NONE if there is none. */
        int runAt(int place, int style) {
            int start = nextRun(0, style);
            for (int left = MOST_UNITS; left > 0 && start != NONE && start <= place; left--) {
                int end = runEnd(start);
                if (end >= place) {
                    return start;
                }
                start = nextRun(end, style);
            }
            return NONE;
        }

        boolean alike(int start, int end, Text other, int otherStart, int otherEnd) {
            if (end - start != otherEnd - otherStart) {
                return false;
            }
            for (int i = 0; i < end - start; i++) {
                if (at(start + i) != other.at(otherStart + i)) {
                    return false;
                }
            }
            return true;
        }

        /** Less than 0 if one run comes ahead of another in the order of letters and digits, 0 if it is like it. */
        int compareRuns(int start, int end, int otherStart, int otherEnd) {
            int common = Math.min(end - start, otherEnd - otherStart);
            for (int i = 0; i < common; i++) {
                int difference = at(start + i) - at(otherStart + i);
                if (difference != 0) {
                    return difference;
                }
            }
            return (end - start) - (otherEnd - otherStart);
        }
    }

    /** A copy of a document, with the changes that were made since it was opened. */
    private static final class Copy {
        private static final int CELLS = 3;

        final Text text = new Text();
        private final Text first = new Text();
        private int[] changes = NOTHING;
        private int made;
        int version = NONE;
        int opened = NONE;
        int editor = NONE;

        boolean isHere() {
            return version != NONE;
        }

        void begin(int atVersion, Text given, int fromEditor) {
            text.takeAll(given);
            first.takeAll(given);
            made = 0;
            version = atVersion;
            opened = atVersion;
            editor = fromEditor;
        }

        void end() {
            version = NONE;
            opened = NONE;
            editor = NONE;
        }

        /** Makes the change that a message tells: its positions tell places in the text as it is now. */
        void alter(Message message) {
            int from = text.placeOf(message.line, message.unit);
            int to = text.placeOf(message.toLine, message.toUnit);
            text.replace(from, to, message.code);
            int at = CELLS * made;
            if (at + CELLS > changes.length && at + CELLS <= PLENTY) {
                changes = Arrays.copyOf(changes, 2 * (at + CELLS));
            }
            if (at >= 0 && at + CELLS <= changes.length) {
                changes[at] = from;
                changes[at + 1] = to;
                changes[at + 2] = message.code;
            }
            made++;
            version++;
        }

        /** Moves items along from a version since the opening to the version of this copy. */
        void moveAlong(Items items, int fromVersion) {
            for (int i = Math.max(fromVersion - opened, 0); i < made; i++) {
                int at = CELLS * i;
                if (at + CELLS <= changes.length) {
                    items.move(changes[at], changes[at + 1], Text.unitsOf(changes[at + 2]));
                }
            }
        }

        /** Moves items along by the change that was made last. */
        void moveOn(Items items) {
            moveAlong(items, version - 1);
        }

        /** What a place becomes by the change that was made last. */
        int placeAfter(int place) {
            int at = CELLS * (made - 1);
            if (at < 0 || at + CELLS > changes.length) {
                return place;
            }
            int from = changes[at];
            int to = changes[at + 1];
            return to <= place ? place + Text.unitsOf(changes[at + 2]) - (to - from) : Math.min(place, from);
        }

        /** Whether another copy has the text that this one had at the same version, if it had that. */
        boolean agreesWith(Copy other, Text then) {
            if (other.version < opened || other.version > version) {
                return true;
            }
            then.takeAll(first);
            for (int i = 0; i < other.version - opened; i++) {
                int at = CELLS * i;
                if (at + CELLS <= changes.length) {
                    then.replace(changes[at], changes[at + 1], changes[at + 2]);
                }
            }
            return then.isSame(other.text);
        }
    }

    /** A row of items, tokens or faults: of each its file, its start, its end and its value. */
    private static final class Items {
        private static final int CELLS = 4;

        private int[] cells = NOTHING;
        private int count;

        int size() {
            return count;
        }

        void clear() {
            count = 0;
        }

        private int cell(int index, int cell) {
            int at = CELLS * index + cell;
            return index >= 0 && index < count && at < cells.length ? cells[at] : 0;
        }

        int fileAt(int index) {
            return cell(index, 0);
        }

        int startAt(int index) {
            return cell(index, 1);
        }

        int endAt(int index) {
            return cell(index, 2);
        }

        int valueAt(int index) {
            return cell(index, 3);
        }

        void add(int file, int start, int end, int value) {
            insert(count, file, start, end, value);
        }

        private void insert(int index, int file, int start, int end, int value) {
            if (index < 0 || index > count) {
                return;
            }
            int used = CELLS * count;
            if (used + CELLS > cells.length && used + CELLS <= PLENTY) {
                cells = Arrays.copyOf(cells, 2 * (used + CELLS));
            }
            int at = CELLS * index;
            if (used + CELLS <= cells.length) {
                System.arraycopy(cells, at, cells, at + CELLS, used - at);
                cells[at] = file;
                cells[at + 1] = start;
                cells[at + 2] = end;
                cells[at + 3] = value;
                count++;
            }
        }

        /** Adds a span in order by starts, then ends, unless it is there. */
        void insertSpan(int file, int start, int end, int value) {
            int index = 0;
            for (int i = 0; i < count; i++) {
                if (startAt(i) == start && endAt(i) == end) {
                    return;
                }
                if (startAt(i) < start || startAt(i) == start && endAt(i) < end) {
                    index = i + 1;
                }
            }
            insert(index, file, start, end, value);
        }

        /** Adds a span in order by starts, unless it has a unit in common with one that is there. */
        void insertApart(int file, int start, int end, int value) {
            int index = 0;
            for (int i = 0; i < count; i++) {
                if (startAt(i) < end && start < endAt(i)) {
                    return;
                }
                if (startAt(i) < start) {
                    index = i + 1;
                }
            }
            insert(index, file, start, end, value);
        }

        /** Adds a run of a text in the order of runs, unless one like it is there. */
        void insertRun(Text text, int file, int start, int end) {
            int index = 0;
            for (int i = 0; i < count; i++) {
                int order = text.compareRuns(startAt(i), endAt(i), start, end);
                if (order == 0) {
                    return;
                }
                if (order < 0) {
                    index = i + 1;
                }
            }
            insert(index, file, start, end, 0);
        }

        /** Moves all spans along by a change that puts some units in place of those between two places. */
        void move(int from, int to, int units) {
            int kept = 0;
            for (int i = 0; i < count && CELLS * i + 3 < cells.length; i++) {
                int start = cells[CELLS * i + 1];
                int end = cells[CELLS * i + 2];
                if (to <= start || from >= end) {
                    int by = to <= start ? units - (to - from) : 0;
                    cells[CELLS * kept] = cells[CELLS * i];
                    cells[CELLS * kept + 1] = start + by;
                    cells[CELLS * kept + 2] = end + by;
                    cells[CELLS * kept + 3] = cells[CELLS * i + 3];
                    kept++;
                }
            }
            count = kept;
        }

        boolean isIn(int file) {
            for (int i = 0; i < count; i++) {
                if (fileAt(i) == file) {
                    return true;
                }
            }
            return false;
        }

        void takeAll(Items other) {
            int used = CELLS * other.count;
            if (used > cells.length && used <= PLENTY) {
                cells = Arrays.copyOf(cells, used);
            }
            if (used >= 0 && used <= cells.length && used <= other.cells.length) {
                System.arraycopy(other.cells, 0, cells, 0, used);
                count = other.count;
            }
        }

        /** The same items in a row of their own that has just room for them. */
        Items copied() {
            Items same = new Items();
            if (count > 0 && CELLS * count <= cells.length) {
                same.cells = Arrays.copyOf(cells, CELLS * count);
                same.count = count;
            }
            return same;
        }
    }

    /** What is sent in a channel. It stays as it was sent: one message may wait in several channels. */
    private static final class Message {
        final int kind;
        final int file;
        int editor = NONE;
        int number = NONE;
        int asked = NONE;
        int version = NONE;
        int line;
        int unit;
        int toLine;
        int toUnit;
        int code = NONE;
        int id = NONE;
        int place;
        int standing = WAITING;
        Text text = null;
        Items items = new Items();
        int[] versions = NOTHING;

        Message(int itsKind, int itsFile) {
            kind = itsKind;
            file = itsFile;
        }

        int versionOf(int ofFile) {
            return ofFile >= 0 && ofFile < versions.length ? versions[ofFile] : NONE;
        }
    }

    /** Messages in the order in which they were sent. */
    private static final class Channel {
        private final ArrayList<Message> messages = new ArrayList<Message>();

        int size() {
            return messages.size();
        }

        void send(Message message) {
            messages.add(message);
        }

        /** The first message, which is gone from the channel then; null if there is none. */
        Message takeFirst() {
            if (messages.isEmpty()) {
                return null;
            }
            Message first = messages.get(0);
            messages.remove(0);
            return first;
        }

        int lose() {
            int lost = messages.size();
            messages.clear();
            return lost;
        }
    }

    /** The files as they are stored, with what all sides know of them. */
    private static final class Files {
        private final char[] names = new char[MOST_FILES];
        private final int[] languages = new int[MOST_FILES];
        private final int[] versions = new int[MOST_FILES];
        private final int[] holders = new int[MOST_FILES];
        private final Text[] texts = new Text[MOST_FILES];
        private final Text nothing = new Text();
        private int count;

        Files() {
            for (int i = 0; i < MOST_FILES; i++) {
                holders[i] = NONE;
                texts[i] = new Text();
            }
        }

        int size() {
            return count;
        }

        boolean has(int file) {
            return file >= 0 && file < count && file < MOST_FILES;
        }

        boolean isFull() {
            return count >= MOST_FILES;
        }

        /** The file with a name, NONE if there is none. */
        int named(int letter) {
            for (int i = 0; i < count && i < MOST_FILES; i++) {
                if (names[i] == letter) {
                    return i;
                }
            }
            return NONE;
        }

        int add(int letter, int language) {
            if (count >= MOST_FILES) {
                return NONE;
            }
            names[count] = (char) letter;
            languages[count] = language;
            count++;
            return count - 1;
        }

        char nameOf(int file) {
            return has(file) ? names[file] : 0;
        }

        void rename(int file, int letter) {
            if (has(file)) {
                names[file] = (char) letter;
            }
        }

        int languageOf(int file) {
            return has(file) ? languages[file] : 0;
        }

        int versionOf(int file) {
            return has(file) ? versions[file] : 0;
        }

        void setVersion(int file, int version) {
            if (has(file)) {
                versions[file] = version;
            }
        }

        /** The editor that has a file open, NONE if none has. */
        int holderOf(int file) {
            return has(file) ? holders[file] : NONE;
        }

        void setHolder(int file, int editor) {
            if (has(file)) {
                holders[file] = editor;
            }
        }

        boolean isAnyHeld() {
            for (int i = 0; i < count; i++) {
                if (holderOf(i) != NONE) {
                    return true;
                }
            }
            return false;
        }

        Text textOf(int file) {
            return has(file) ? texts[file] : nothing;
        }
    }

    /** A request as its editor sees it. */
    private static final class Ask {
        final int kind;
        final int file;
        final int letter;
        int standing = WAITING;
        Items items = new Items();

        Ask(int itsKind, int itsFile, int itsLetter) {
            kind = itsKind;
            file = itsFile;
            letter = itsLetter;
        }
    }

    /** An editor with its documents, its requests and what it shows. */
    private static final class Editor {
        private static final int STEP = 128, NOWHERE = 127;

        private final int number;
        private final Files files;
        private final Channel out;
        private final Copy[] copies = new Copy[MOST_FILES];
        private final Copy nothing = new Copy();
        private final Items[] faults = new Items[MOST_FILES];
        private final Items noFaults = new Items();
        private final ArrayList<Ask> asks = new ArrayList<Ask>();

        Editor(int itsNumber, Files allFiles, Channel itsOut) {
            number = itsNumber;
            files = allFiles;
            out = itsOut;
            for (int i = 0; i < MOST_FILES; i++) {
                copies[i] = new Copy();
                faults[i] = new Items();
            }
        }

        Copy copyOf(int file) {
            return file >= 0 && file < MOST_FILES ? copies[file] : nothing;
        }

        Items faultsOf(int file) {
            return file >= 0 && file < MOST_FILES ? faults[file] : noFaults;
        }

        /** A request of this editor, null if there is none with that number. */
        Ask askAt(int request) {
            return request >= 0 && request < asks.size() ? asks.get(request) : null;
        }

        int asked() {
            return asks.size();
        }

        private void send(Message message, int version) {
            message.editor = number;
            message.version = version;
            out.send(message);
        }

        int begin(int file) {
            int version = files.versionOf(file) + 1;
            files.setVersion(file, version);
            files.setHolder(file, number);
            copyOf(file).begin(version, files.textOf(file), number);
            Message message = new Message(OPEN, file);
            message.text = new Text();
            message.text.takeAll(files.textOf(file));
            send(message, version);
            return version;
        }

        void finish(int file) {
            Copy copy = copyOf(file);
            files.textOf(file).takeAll(copy.text);
            files.setHolder(file, NONE);
            send(new Message(CLOSE, file), copy.version);
            copy.end();
            faultsOf(file).clear();
            for (int i = 0; i < asks.size(); i++) {
                Ask ask = asks.get(i);
                if (ask.standing == SHOWN && (ask.file == file || ask.items.isIn(file))) {
                    ask.standing = STALE;
                }
            }
        }

        /** Makes the change that a message tells, and sends it; tells the version then. */
        int alter(Message message) {
            int file = message.file;
            Copy copy = copyOf(file);
            copy.alter(message);
            files.setVersion(file, copy.version);
            send(message, copy.version);
            copy.moveOn(faultsOf(file));
            for (int i = 0; i < asks.size(); i++) {
                Ask ask = asks.get(i);
                if (ask.standing == SHOWN && isMoved(ask.kind) && ask.file == file) {
                    copy.moveOn(ask.items);
                } else if (ask.standing == SHOWN && (ask.file == file || ask.items.isIn(file))) {
                    ask.standing = STALE;
                }
            }
            return copy.version;
        }

        private void replaceSpan(int file, int start, int end, int code) {
            Text text = copyOf(file).text;
            Message message = new Message(CHANGE, file);
            message.line = text.lineOf(start);
            message.unit = start - text.lineStart(start);
            message.toLine = text.lineOf(end);
            message.toUnit = end - text.lineStart(end);
            message.code = code;
            alter(message);
        }

        int ask(Message message) {
            int request = asks.size();
            asks.add(new Ask(message.asked, message.file, message.code));
            message.number = request;
            send(message, copyOf(message.file).version);
            return request;
        }

        void withdraw(int request, Ask ask) {
            Message message = new Message(CANCEL, ask.file);
            message.number = request;
            send(message, NONE);
        }

        boolean canApply(Ask ask) {
            int named = files.named(ask.letter);
            if (ask.kind == EXTRACT) {
                return named == NONE && !files.isFull();
            }
            for (int i = 0; i < ask.items.size(); i++) {
                if (ask.items.startAt(i) == NONE && named != NONE && named != ask.items.fileAt(i)) {
                    return false;
                }
            }
            return true;
        }

        /** Renames files and replaces spans; tells how many changes that made. */
        int applyRename(Ask ask) {
            Items edit = ask.items;
            int changes = 0;
            for (int file = 0; file < files.size(); file++) {
                // the last span first: so the others keep their places
                for (int i = edit.size() - 1; i >= 0; i--) {
                    if (edit.fileAt(i) == file && edit.startAt(i) == NONE) {
                        files.rename(file, ask.letter);
                    } else if (edit.fileAt(i) == file) {
                        replaceSpan(file, edit.startAt(i), edit.endAt(i), ask.letter);
                        changes++;
                    }
                }
            }
            ask.standing = STALE;
            return changes;
        }

        /** Puts the span into a file of its own; tells how many changes that made. */
        int applyExtract(Ask ask) {
            int start = ask.items.startAt(0);
            int end = ask.items.endAt(0);
            int added = files.add(ask.letter, files.languageOf(ask.file));
            files.textOf(added).takePart(copyOf(ask.file).text, start, end);
            replaceSpan(ask.file, start, end, NONE);
            ask.standing = STALE;
            return 1;
        }

        void takeAnswer(Message answer) {
            Ask ask = askAt(answer.number);
            if (ask == null || ask.standing != WAITING) {
                return;
            }
            if (answer.standing != SHOWN) {
                ask.standing = answer.standing;
                return;
            }
            Copy copy = copyOf(ask.file);
            if (isMoved(ask.kind) ? isLate(copy, answer.version) : !isCurrent(copy, ask.kind, answer)) {
                ask.standing = STALE;
                return;
            }
            ask.standing = SHOWN;
            ask.items = answer.items;
            if (isMoved(ask.kind)) {
                copy.moveAlong(ask.items, answer.version);
            }
        }

        private boolean isLate(Copy copy, int version) {
            return !copy.isHere() || copy.opened > version;
        }

        private boolean isCurrent(Copy copy, int kind, Message answer) {
            if (!copy.isHere() || copy.version != answer.version) {
                return false;
            }
            for (int i = 0; kind == RENAME && i < answer.items.size(); i++) {
                int file = answer.items.fileAt(i);
                if (!copyOf(file).isHere() || copyOf(file).version != answer.versionOf(file)) {
                    return false;
                }
            }
            return true;
        }

        void takeFaults(Message told) {
            Copy copy = copyOf(told.file);
            if (isLate(copy, told.version) || told.file < 0 || told.file >= MOST_FILES) {
                return;
            }
            copy.moveAlong(told.items, told.version);
            faults[told.file] = told.items;
        }

        /** An item as one number: its file, its line, its unit in that, and its units. */
        int tell(Items items, int index) {
            int file = items.fileAt(index);
            int start = items.startAt(index);
            if (start == NONE) {
                return ((file * STEP + NOWHERE) * STEP + NOWHERE) * STEP + NOWHERE;
            }
            Text text = copyOf(file).text;
            int line = text.lineOf(start);
            int unit = start - text.lineStart(start);
            return ((file * STEP + line) * STEP + unit) * STEP + items.endAt(index) - start;
        }

        int tokenNumber(Ask ask, int index) {
            Text text = copyOf(ask.file).text;
            int token = index / TOKEN_NUMBERS;
            int start = ask.items.startAt(token);
            int before = token > 0 ? ask.items.startAt(token - 1) : 0;
            int lines = text.lineOf(start) - text.lineOf(before);
            switch (index % TOKEN_NUMBERS) {
                case 0:
                    return lines;
                case 1:
                    return lines == 0 ? start - before : start - text.lineStart(start);
                case 2:
                    return ask.items.endAt(token) - start;
                default:
                    return ask.items.valueAt(token);
            }
        }
    }

    /** A server with its copies and the requests that it has not answered. */
    private static final class Server {
        private final int kinds;
        private final int languages;
        private final int style;
        private final Files files;
        private final Copy[] copies = new Copy[MOST_FILES];
        private final Copy nothing = new Copy();
        private final ArrayList<Message> questions = new ArrayList<Message>();
        private final Items found = new Items();
        boolean up = true;

        Server(int itsKinds, int itsLanguages, int itsStyle, Files allFiles) {
            kinds = itsKinds;
            languages = itsLanguages;
            style = itsStyle;
            files = allFiles;
            for (int i = 0; i < MOST_FILES; i++) {
                copies[i] = new Copy();
            }
        }

        Copy copyOf(int file) {
            return file >= 0 && file < MOST_FILES ? copies[file] : nothing;
        }

        int requests() {
            return questions.size();
        }

        boolean speaks(int language) {
            return (languages >> language & 1) == 1;
        }

        boolean does(int kind) {
            return (kinds >> kind & 1) == 1;
        }

        void fall() {
            up = false;
            questions.clear();
            for (int i = 0; i < MOST_FILES; i++) {
                copies[i].end();
            }
        }

        void take(Message message) {
            Copy copy = copyOf(message.file);
            switch (message.kind) {
                case OPEN:
                    if (message.text != null) {
                        copy.begin(message.version, message.text, message.editor);
                    }
                    break;
                case CHANGE:
                    takeChange(copy, message);
                    break;
                case CLOSE:
                    copy.end();
                    break;
                case REQUEST:
                    message.place = copy.isHere() ? copy.text.placeOf(message.line, message.unit) : 0;
                    questions.add(message);
                    break;
                default:
                    forget(message.id);
                    break;
            }
        }

        private void takeChange(Copy copy, Message message) {
            if (!copy.isHere()) {
                return;
            }
            copy.alter(message);
            for (int i = 0; i < questions.size(); i++) {
                Message question = questions.get(i);
                if (question.file == message.file) {
                    question.place = copy.placeAfter(question.place);
                }
            }
        }

        private void forget(int id) {
            for (int i = questions.size() - 1; i >= 0; i--) {
                if (questions.get(i).id == id) {
                    questions.remove(i);
                }
            }
        }

        /** The answer to one of the requests, which is gone then. */
        Message answerTo(int index) {
            found.clear();
            if (index < 0 || index >= questions.size()) {
                return new Message(ANSWER, NONE);
            }
            Message question = questions.get(index);
            questions.remove(index);
            Copy copy = copyOf(question.file);
            if (copy.isHere()) {
                find(question, copy.text);
            }
            Message answer = new Message(ANSWER, question.file);
            answer.id = question.id;
            answer.version = copy.version;
            answer.items = found.copied();
            if (question.asked == RENAME) {
                answer.versions = versionsOf(copies);
            }
            return answer;
        }

        private void find(Message question, Text text) {
            int place = question.place;
            int file = question.file;
            int start = text.runAt(place, style);
            int end = start == NONE ? NONE : text.runEnd(start);
            if (question.asked == COMPLETION) {
                findLonger(file, text, start, start == NONE ? NONE : place);
            } else if (question.asked == TOKENS) {
                findAll(file, text);
            } else if (question.asked == EXTRACT) {
                int lineStart = text.lineStart(place);
                int lineEnd = text.lineEnd(lineStart);
                if (lineEnd > lineStart) {
                    found.add(file, lineStart, lineEnd, 0);
                }
            } else if (start != NONE && question.asked == RENAME) {
                findEverywhere(text, start, end);
            } else if (start != NONE) {
                findAlike(file, text, text, start, end);
                keepOne(question.asked, file, start, end);
            }
        }

        /** Makes of all runs alike what hover and definition answer: the run with their number, or the first one. */
        private void keepOne(int kind, int file, int start, int end) {
            int alike = found.size();
            int firstStart = found.startAt(0);
            int firstEnd = found.endAt(0);
            found.clear();
            if (kind == HOVER) {
                found.add(file, start, end, alike);
            } else {
                found.add(file, firstStart, firstEnd, 0);
            }
        }

        private void findLonger(int file, Text text, int from, int to) {
            int start = text.nextRun(0, style);
            for (int left = MOST_UNITS; left > 0 && start != NONE; left--) {
                int end = text.runEnd(start);
                if (end - start > to - from && text.alike(start, start + to - from, text, from, to)) {
                    found.insertRun(text, file, start, end);
                }
                start = text.nextRun(end, style);
            }
        }

        private void findAll(int file, Text text) {
            int start = text.nextRun(0, style);
            for (int left = MOST_UNITS; left > 0 && start != NONE; left--) {
                int end = text.runEnd(start);
                found.add(file, start, end, text.tokenValue(start));
                start = text.nextRun(end, style);
            }
        }

        private void findAlike(int file, Text text, Text like, int likeStart, int likeEnd) {
            int start = text.nextRun(0, style);
            for (int left = MOST_UNITS; left > 0 && start != NONE; left--) {
                int end = text.runEnd(start);
                if (text.alike(start, end, like, likeStart, likeEnd)) {
                    found.add(file, start, end, 0);
                }
                start = text.nextRun(end, style);
            }
        }

        private void findEverywhere(Text like, int likeStart, int likeEnd) {
            for (int file = 0; file < files.size(); file++) {
                Copy copy = copyOf(file);
                if (copy.isHere()) {
                    if (likeEnd - likeStart == 1 && like.at(likeStart) == files.nameOf(file)) {
                        found.add(file, NONE, NONE, 0);
                    }
                    findAlike(file, copy.text, like, likeStart, likeEnd);
                }
            }
        }

        Message faultsOf(int file) {
            Copy copy = copyOf(file);
            Text text = copy.text;
            found.clear();
            int ahead = text.nextRun(0, style);
            int aheadEnd = ahead == NONE ? 0 : text.runEnd(ahead);
            int start = text.nextRun(aheadEnd, style);
            for (int left = MOST_UNITS; left > 0 && start != NONE; left--) {
                int end = text.runEnd(start);
                if (text.alike(start, end, text, ahead, aheadEnd)) {
                    found.add(file, start, end, 0);
                }
                ahead = start;
                aheadEnd = end;
                start = text.nextRun(end, style);
            }
            Message told = new Message(FAULTS, file);
            told.version = copy.version;
            told.items = found.copied();
            return told;
        }
    }

    /** A request that the multiplexer has not answered yet, with the answers that it has of servers. */
    private static final class Pending {
        final Message question;
        private final boolean[] waits = new boolean[MOST_SERVERS];
        private final Message[] answers = new Message[MOST_SERVERS];

        Pending(Message itsQuestion) {
            question = itsQuestion;
        }

        boolean waitsFor(int server) {
            return server >= 0 && server < MOST_SERVERS && waits[server];
        }

        void waitFor(int server) {
            if (server >= 0 && server < MOST_SERVERS) {
                waits[server] = true;
            }
        }

        /** A server has answered: null tells that it did so without items, by a crash. */
        void note(int server, Message answer) {
            if (server >= 0 && server < MOST_SERVERS) {
                waits[server] = false;
                answers[server] = answer;
            }
        }

        boolean isComplete() {
            for (int i = 0; i < MOST_SERVERS; i++) {
                if (waits[i]) {
                    return false;
                }
            }
            return true;
        }

        Message answerOf(int server) {
            return server >= 0 && server < MOST_SERVERS ? answers[server] : null;
        }
    }

    /** What stands between the editors and the servers. */
    private static final class Multiplexer {
        private final Files files;
        private final ArrayList<Server> servers;
        private final Channel[] channels;
        private final Copy[] copies = new Copy[MOST_FILES];
        private final Copy nothing = new Copy();
        private final int[] taken = new int[MOST_FILES];
        private final Items[] faults = new Items[MOST_FILES * MOST_SERVERS];
        private final ArrayList<Pending> pending = new ArrayList<Pending>();
        private final int[] ids = new int[EDITORS * MOST_REQUESTS * MOST_SERVERS];
        private int nextId;
        private final Items merged = new Items();
        private final Channel nowhere = new Channel();

        Multiplexer(Files allFiles, ArrayList<Server> allServers, Channel[] allChannels) {
            files = allFiles;
            servers = allServers;
            channels = allChannels;
            for (int i = 0; i < MOST_FILES; i++) {
                copies[i] = new Copy();
            }
            for (int i = 0; i < faults.length; i++) {
                faults[i] = new Items();
            }
            Arrays.fill(ids, NONE);
        }

        Copy copyOf(int file) {
            return file >= 0 && file < MOST_FILES ? copies[file] : nothing;
        }

        boolean hasCopies() {
            for (int i = 0; i < MOST_FILES; i++) {
                if (copies[i].isHere()) {
                    return true;
                }
            }
            return false;
        }

        private int idCell(int editor, int number, int server) {
            if (editor < 0 || editor >= EDITORS || number < 0 || number >= MOST_REQUESTS) {
                return NONE;
            }
            int row = (editor * MOST_REQUESTS + number) * MOST_SERVERS;
            return server < 0 || server >= MOST_SERVERS ? NONE : row + server;
        }

        /** The id of a request for a server, NONE if it was not sent on to that. */
        int idOf(int editor, int number, int server) {
            int at = idCell(editor, number, server);
            return at >= 0 && at < ids.length ? ids[at] : NONE;
        }

        private Channel channelAt(int channel) {
            return channel >= 0 && channel < channels.length ? channels[channel] : nowhere;
        }

        void takeFromEditor(Message message) {
            switch (message.kind) {
                case OPEN:
                    takeOpen(message);
                    break;
                case CHANGE:
                    takeChange(message);
                    break;
                case CLOSE:
                    takeClose(message);
                    break;
                case REQUEST:
                    takeRequest(message);
                    break;
                default:
                    takeCancel(message);
                    break;
            }
        }

        private void takeOpen(Message message) {
            int file = message.file;
            if (file < 0 || file >= MOST_FILES || message.version <= taken[file] || message.text == null) {
                return;
            }
            taken[file] = message.version;
            copies[file].begin(message.version, message.text, message.editor);
            dropFaults(file);
            passOn(message);
        }

        private void takeChange(Message message) {
            int file = message.file;
            Copy copy = copyOf(file);
            if (file < 0 || file >= MOST_FILES || !copy.isHere() || message.version != copy.version + 1) {
                return;
            }
            taken[file] = message.version;
            copy.alter(message);
            for (int i = 0; i < MOST_SERVERS; i++) {
                copy.moveOn(faults[file * MOST_SERVERS + i]);
            }
            passOn(message);
        }

        private void takeClose(Message message) {
            Copy copy = copyOf(message.file);
            if (!copy.isHere() || message.version != copy.version) {
                return;
            }
            copy.end();
            dropFaults(message.file);
            passOn(message);
        }

        private void dropFaults(int file) {
            for (int i = 0; file >= 0 && file < MOST_FILES && i < MOST_SERVERS; i++) {
                faults[file * MOST_SERVERS + i].clear();
            }
        }

        private void passOn(Message message) {
            int language = files.languageOf(message.file);
            for (int i = 0; i < servers.size(); i++) {
                Server server = servers.get(i);
                if (server.up && server.speaks(language)) {
                    channelAt(TO_SERVERS + i).send(message);
                }
            }
        }

        private void takeRequest(Message message) {
            for (int i = pending.size() - 1; i >= 0; i--) {
                Message earlier = pending.get(i).question;
                boolean isOfSameEditor = earlier.editor == message.editor;
                if (isOfSameEditor && earlier.asked == message.asked && earlier.file == message.file) {
                    dismiss(i);
                    reply(earlier, CANCELLED);
                }
            }
            Pending asked = new Pending(message);
            boolean isOpen = copyOf(message.file).isHere();
            for (int i = 0; isOpen && i < servers.size(); i++) {
                Server server = servers.get(i);
                if (server.up && server.does(message.asked) && server.speaks(files.languageOf(message.file))) {
                    askServer(asked, i);
                }
            }
            if (asked.isComplete()) {
                reply(message, NOBODY);
            } else {
                pending.add(asked);
            }
        }

        private void askServer(Pending asked, int server) {
            Message question = asked.question;
            Message passed = new Message(REQUEST, question.file);
            passed.asked = question.asked;
            passed.line = question.line;
            passed.unit = question.unit;
            passed.id = nextId;
            int at = idCell(question.editor, question.number, server);
            if (at >= 0 && at < ids.length) {
                ids[at] = nextId;
            }
            nextId++;
            asked.waitFor(server);
            channelAt(TO_SERVERS + server).send(passed);
        }

        private void takeCancel(Message message) {
            for (int i = pending.size() - 1; i >= 0; i--) {
                Message question = pending.get(i).question;
                if (question.editor == message.editor && question.number == message.number) {
                    dismiss(i);
                    reply(question, CANCELLED);
                }
            }
        }

        /** Forgets a request that is not answered, and has the servers forget it. */
        private void dismiss(int index) {
            if (index < 0 || index >= pending.size()) {
                return;
            }
            Pending cancelled = pending.get(index);
            pending.remove(index);
            Message question = cancelled.question;
            for (int i = 0; i < MOST_SERVERS; i++) {
                if (cancelled.waitsFor(i)) {
                    Message message = new Message(CANCEL, question.file);
                    message.id = idOf(question.editor, question.number, i);
                    channelAt(TO_SERVERS + i).send(message);
                }
            }
        }

        private Message reply(Message question, int standing) {
            Message answer = new Message(ANSWER, question.file);
            answer.number = question.number;
            answer.standing = standing;
            answer.version = copyOf(question.file).version;
            channelAt(TO_EDITORS + question.editor).send(answer);
            return answer;
        }

        /** Takes an answer of a server; tells the request to which all have answered by that, null if there is none. */
        Pending completedBy(int server, Message answer) {
            for (int i = 0; i < pending.size(); i++) {
                Pending asked = pending.get(i);
                Message question = asked.question;
                if (asked.waitsFor(server) && idOf(question.editor, question.number, server) == answer.id) {
                    asked.note(server, answer);
                    if (!asked.isComplete()) {
                        return null;
                    }
                    pending.remove(i);
                    return asked;
                }
            }
            return null;
        }

        /** A server has crashed: it counts as having answered all requests. */
        void miss(int server) {
            int index = 0;
            for (int left = pending.size(); left > 0 && index < pending.size(); left--) {
                Pending asked = pending.get(index);
                boolean waited = asked.waitsFor(server);
                if (waited) {
                    asked.note(server, null);
                }
                if (waited && asked.isComplete()) {
                    pending.remove(index);
                    settle(asked);
                } else {
                    index++;
                }
            }
        }

        int giveCopies(int number, Server server) {
            int given = 0;
            for (int file = 0; file < files.size(); file++) {
                Copy copy = copyOf(file);
                if (copy.isHere() && server.speaks(files.languageOf(file))) {
                    Message message = new Message(OPEN, file);
                    message.editor = copy.editor;
                    message.version = copy.version;
                    message.text = new Text();
                    message.text.takeAll(copy.text);
                    channelAt(TO_SERVERS + number).send(message);
                    given++;
                }
            }
            return given;
        }

        /** Merges the answers to a request to which all have answered, and answers it. */
        void settle(Pending asked) {
            if (asked == null) {
                return;
            }
            Message question = asked.question;
            int kind = question.asked;
            Copy copy = copyOf(question.file);
            boolean stale = !copy.isHere() || copy.opened > question.version
                    || !isMoved(kind) && copy.version != question.version;
            merged.clear();
            if (!stale && isMoved(kind)) {
                mergeMoved(asked, copy);
            } else if (!stale && kind == COMPLETION) {
                mergeRuns(asked, copy.text);
            } else if (!stale) {
                stale = !mergeLowest(asked);
            }
            Message answer = reply(question, stale ? STALE : SHOWN);
            if (!stale) {
                answer.items = merged.copied();
            }
            if (kind == RENAME) {
                answer.versions = versionsOf(copies);
            }
        }

        private void mergeMoved(Pending asked, Copy copy) {
            for (int i = 0; i < MOST_SERVERS; i++) {
                Message answer = asked.answerOf(i);
                if (answer != null && answer.version >= copy.opened) {
                    Items items = answer.items;
                    copy.moveAlong(items, answer.version);
                    for (int k = 0; k < items.size(); k++) {
                        if (asked.question.asked == TOKENS) {
                            merged.insertApart(items.fileAt(k), items.startAt(k), items.endAt(k), items.valueAt(k));
                        } else {
                            merged.insertSpan(items.fileAt(k), items.startAt(k), items.endAt(k), items.valueAt(k));
                        }
                    }
                }
            }
        }

        private void mergeRuns(Pending asked, Text text) {
            for (int i = 0; i < MOST_SERVERS; i++) {
                Message answer = asked.answerOf(i);
                for (int k = 0; answer != null && k < answer.items.size(); k++) {
                    merged.insertRun(text, answer.items.fileAt(k), answer.items.startAt(k), answer.items.endAt(k));
                }
            }
        }

        /** Takes the items of the lowest server that has some; tells false if such were left out, and none is there. */
        private boolean mergeLowest(Pending asked) {
            boolean leftOut = false;
            for (int i = 0; i < MOST_SERVERS; i++) {
                Message answer = asked.answerOf(i);
                if (answer != null && answer.items.size() > 0) {
                    if (asked.question.asked != RENAME || isCurrent(answer)) {
                        merged.takeAll(answer.items);
                        return true;
                    }
                    leftOut = true;
                }
            }
            return !leftOut;
        }

        /** Whether an answer has the versions of the copies here, of all documents of which it has items. */
        private boolean isCurrent(Message answer) {
            for (int i = 0; i < answer.items.size(); i++) {
                int file = answer.items.fileAt(i);
                if (!copyOf(file).isHere() || copyOf(file).version != answer.versionOf(file)) {
                    return false;
                }
            }
            return true;
        }

        void takeFaults(int server, Message told) {
            int file = told.file;
            Copy copy = copyOf(file);
            if (!copy.isHere() || told.version < copy.opened) {
                return;
            }
            if (file < 0 || file >= MOST_FILES || server < 0 || server >= MOST_SERVERS) {
                return;
            }
            copy.moveAlong(told.items, told.version);
            faults[file * MOST_SERVERS + server] = told.items;
            merged.clear();
            for (int i = 0; i < MOST_SERVERS; i++) {
                Items kept = faults[file * MOST_SERVERS + i];
                for (int k = 0; k < kept.size(); k++) {
                    merged.insertSpan(file, kept.startAt(k), kept.endAt(k), 0);
                }
            }
            Message message = new Message(FAULTS, file);
            message.version = copy.version;
            message.items = merged.copied();
            channelAt(TO_EDITORS + copy.editor).send(message);
        }
    }
}
