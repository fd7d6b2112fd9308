import java.util.ArrayList;
import java.util.Comparator;
import java.util.HashSet;
import java.util.List;
import java.util.Set;
import java.util.TreeMap;
import java.util.TreeSet;
import java.util.function.Function;

/**
 * The document once more, written as literally as possible and with the whole Java library: texts are
 * strings, every side keeps the text of every version, and tokens are really coded and decoded.
 * RandomRunsTest compares ToolPlex with it.
 */
final class Model {
    static final int WAITING = 0, SHOWN = 1, CANCELLED = 2, STALE = 3, NOBODY = 4;
    static final int OPEN = 0, CHANGE = 1, CLOSE = 2, REQUEST = 3, CANCEL = 4, ANSWER = 5, FAULTS = 6;

    record Span(int file, int start, int end, int value) {
        boolean renames() {
            return start == -1;
        }
    }

    /** The units from a up to b were replaced by a string. */
    record Edit(int a, int b, String by) {
        int shift() {
            return by.length() - (b - a);
        }

        Span move(Span s) {
            if (b <= s.start) {
                return new Span(s.file, s.start + shift(), s.end + shift(), s.value);
            }
            return a >= s.end ? s : null;
        }

        int move(int place) {
            if (b <= place) {
                return place + shift();
            }
            return a < place ? a : place;
        }
    }

    static final class Doc {
        final int opened;
        final int editor;
        int version;
        String text;
        final TreeMap<Integer, String> texts = new TreeMap<>();
        final TreeMap<Integer, Edit> edits = new TreeMap<>();

        Doc(int version, String text, int editor) {
            this.opened = version;
            this.version = version;
            this.text = text;
            this.editor = editor;
            texts.put(version, text);
        }

        Edit change(int line, int unit, int toLine, int toUnit, int code) {
            Edit edit = new Edit(place(text, line, unit), place(text, toLine, toUnit), string(code));
            text = text.substring(0, edit.a) + edit.by + text.substring(edit.b);
            version++;
            texts.put(version, text);
            edits.put(version, edit);
            return edit;
        }

        List<Span> along(List<Span> spans, int from) {
            List<Span> moved = spans;
            for (int v = from + 1; v <= version; v++) {
                moved = moveAll(moved, edits.get(v));
            }
            return moved;
        }
    }

    static final class Message {
        int kind, editor, number, file, version, line, unit, toLine, toUnit, code, asked, id, standing;
        String text;
        List<Span> items = new ArrayList<>();
        int[] tokens;
        TreeMap<Integer, Integer> versions = new TreeMap<>();

        Message(int kind) {
            this.kind = kind;
        }
    }

    static final class File {
        char name;
        int language, version;
        String stored = "";
        int holder = -1;
    }

    static final class Request {
        int kind, file, letter, standing;
        List<Span> items = new ArrayList<>();
    }

    static final class Editor {
        final TreeMap<Integer, Doc> docs = new TreeMap<>();
        final List<Request> requests = new ArrayList<>();
        final TreeMap<Integer, List<Span>> faults = new TreeMap<>();
    }

    static final class Asked {
        int id, kind, file, place;
    }

    static final class Server {
        int kinds, languages, style;
        boolean up = true;
        final TreeMap<Integer, Doc> docs = new TreeMap<>();
        final List<Asked> asked = new ArrayList<>();
    }

    static final class Open {
        Message request;
        final TreeMap<Integer, Integer> ids = new TreeMap<>();
        final Set<Integer> waits = new TreeSet<>();
        final TreeMap<Integer, Message> answers = new TreeMap<>();
    }

    final List<File> files = new ArrayList<>();
    final Editor[] editors = {new Editor(), new Editor()};
    final List<Server> servers = new ArrayList<>();
    final List<List<Message>> channels = new ArrayList<>();
    final TreeMap<Integer, Doc> docs = new TreeMap<>();
    final TreeMap<Integer, Integer> taken = new TreeMap<>();
    final TreeMap<Integer, TreeMap<Integer, List<Span>>> faults = new TreeMap<>();
    final List<Open> opens = new ArrayList<>();
    final TreeMap<String, Integer> ids = new TreeMap<>();
    int nextId = 0;

    Model() {
        for (int i = 0; i < 10; i++) {
            channels.add(new ArrayList<>());
        }
    }

    // ---- texts

    static String string(int code) {
        return code == -1 ? "" : new String(Character.toChars(code));
    }

    static boolean isCode(int c) {
        return c >= 97 && c <= 122 || c >= 48 && c <= 57 || c == 32 || c == 10 || c >= 128512 && c <= 128591;
    }

    static int place(String text, int line, int unit) {
        String[] lines = text.split("\n", -1);
        if (line >= lines.length) {
            return text.length();
        }
        int start = 0;
        for (int i = 0; i < line; i++) {
            start += lines[i].length() + 1;
        }
        int place = start + Math.min(unit, lines[line].length());
        boolean within = place > 0 && place < text.length()
                && Character.isHighSurrogate(text.charAt(place - 1)) && Character.isLowSurrogate(text.charAt(place));
        return within ? place - 1 : place;
    }

    static int line(String text, int place) {
        return (int) text.substring(0, place).chars().filter(c -> c == 10).count();
    }

    static int unitIn(String text, int place) {
        return place - (text.substring(0, place).lastIndexOf('\n') + 1);
    }

    static List<Span> runs(String text, int style, int file) {
        List<Span> found = new ArrayList<>();
        java.util.regex.Matcher m = java.util.regex.Pattern.compile("[a-z]+|[0-9]+").matcher(text);
        while (m.find()) {
            boolean number = Character.isDigit(text.charAt(m.start()));
            if (style == 2 || (style == 1) == number) {
                found.add(new Span(file, m.start(), m.end(), number ? 1 : 0));
            }
        }
        return found;
    }

    static String of(String text, Span s) {
        return text.substring(s.start, s.end);
    }

    static List<Span> moveAll(List<Span> spans, Edit edit) {
        List<Span> moved = new ArrayList<>();
        for (Span s : spans) {
            Span m = edit.move(s);
            if (m != null) {
                moved.add(m);
            }
        }
        return moved;
    }

    static int[] code(List<Span> tokens, String text) {
        int[] coded = new int[4 * tokens.size()];
        int line = 0;
        int unit = 0;
        for (int i = 0; i < tokens.size(); i++) {
            Span t = tokens.get(i);
            int l = line(text, t.start);
            int u = unitIn(text, t.start);
            coded[4 * i] = l - line;
            coded[4 * i + 1] = l == line && i > 0 ? u - unit : u;
            coded[4 * i + 2] = t.end - t.start;
            coded[4 * i + 3] = t.value;
            line = l;
            unit = u;
        }
        return coded;
    }

    static List<Span> decode(int[] coded, String text, int file) {
        List<Span> tokens = new ArrayList<>();
        int line = 0;
        int unit = 0;
        for (int i = 0; i < coded.length; i += 4) {
            unit = coded[i] == 0 ? unit + coded[i + 1] : coded[i + 1];
            line += coded[i];
            int start = place(text, line, unit);
            tokens.add(new Span(file, start, start + coded[i + 2], coded[i + 3]));
        }
        return tokens;
    }

    // ---- checks

    private static IndexOutOfBoundsException out() {
        return new IndexOutOfBoundsException();
    }

    private static IllegalArgumentException bad() {
        return new IllegalArgumentException();
    }

    private static IllegalStateException not() {
        return new IllegalStateException();
    }

    private Editor editor(int e) {
        if (e != 0 && e != 1) {
            throw out();
        }
        return editors[e];
    }

    private File fileAt(int f) {
        if (f < 0 || f >= files.size()) {
            throw out();
        }
        return files.get(f);
    }

    private Server serverAt(int s) {
        if (s < 0 || s >= servers.size()) {
            throw out();
        }
        return servers.get(s);
    }

    private Request requestAt(int e, int r) {
        Editor editor = editor(e);
        if (r < 0 || r >= editor.requests.size()) {
            throw out();
        }
        return editor.requests.get(r);
    }

    private void range(int x, int from, int to) {
        if (x < from || x > to) {
            throw bad();
        }
    }

    private int named(int letter) {
        for (int i = 0; i < files.size(); i++) {
            if (files.get(i).name == letter) {
                return i;
            }
        }
        return -1;
    }

    private void send(int channel, Message m) {
        channels.get(channel).add(m);
    }

    // ---- files and servers

    int file(int name, int language) {
        range(name, 97, 122);
        range(language, 0, 2);
        if (files.size() == 6 || named(name) >= 0) {
            throw not();
        }
        File f = new File();
        f.name = (char) name;
        f.language = language;
        files.add(f);
        return files.size() - 1;
    }

    int store(int file, int code) {
        File f = fileAt(file);
        if (!isCode(code)) {
            throw bad();
        }
        if (f.holder >= 0 || (f.stored + string(code)).length() > 100) {
            throw not();
        }
        f.stored += string(code);
        return f.stored.length();
    }

    int server(int kinds, int languages, int style) {
        range(kinds, 1, 63);
        range(languages, 1, 7);
        range(style, 0, 2);
        if (servers.size() == 3 || files.stream().anyMatch(f -> f.holder >= 0) || !docs.isEmpty()) {
            throw not();
        }
        Server s = new Server();
        s.kinds = kinds;
        s.languages = languages;
        s.style = style;
        servers.add(s);
        return servers.size() - 1;
    }

    char name(int file) {
        return fileAt(file).name;
    }

    // ---- editors

    int open(int editor, int file) {
        Editor e = editor(editor);
        File f = fileAt(file);
        if (f.holder >= 0) {
            throw not();
        }
        f.holder = editor;
        f.version++;
        e.docs.put(file, new Doc(f.version, f.stored, editor));
        Message m = new Message(OPEN);
        m.editor = editor;
        m.file = file;
        m.version = f.version;
        m.text = f.stored;
        send(editor, m);
        return f.version;
    }

    void close(int editor, int file) {
        Editor e = editor(editor);
        File f = fileAt(file);
        Doc doc = e.docs.get(file);
        if (doc == null) {
            throw not();
        }
        f.holder = -1;
        f.stored = doc.text;
        e.docs.remove(file);
        Message m = new Message(CLOSE);
        m.editor = editor;
        m.file = file;
        m.version = doc.version;
        send(editor, m);
        e.faults.remove(file);
        for (Request r : e.requests) {
            boolean touched = r.file == file || r.kind == 4 && r.items.stream().anyMatch(s -> s.file == file);
            if (r.standing == SHOWN && touched) {
                r.standing = STALE;
            }
        }
    }

    int change(int editor, int file, int line, int unit, int toLine, int toUnit, int code) {
        Editor e = editor(editor);
        fileAt(file);
        for (int x : new int[] {line, unit, toLine, toUnit}) {
            range(x, 0, 1000);
        }
        if (code != -1 && !isCode(code)) {
            throw bad();
        }
        Doc doc = e.docs.get(file);
        if (doc == null) {
            throw not();
        }
        int a = place(doc.text, line, unit);
        int b = place(doc.text, toLine, toUnit);
        if (b < a || doc.text.length() - (b - a) + string(code).length() > 100) {
            throw not();
        }
        doChange(editor, file, new int[] {line, unit, toLine, toUnit}, code, null);
        return doc.version;
    }

    private void doChange(int editor, int file, int[] at, int code, Request applied) {
        Editor e = editors[editor];
        Doc doc = e.docs.get(file);
        Edit edit = doc.change(at[0], at[1], at[2], at[3], code);
        files.get(file).version = doc.version;
        Message m = new Message(CHANGE);
        m.editor = editor;
        m.file = file;
        m.version = doc.version;
        m.line = at[0];
        m.unit = at[1];
        m.toLine = at[2];
        m.toUnit = at[3];
        m.code = code;
        send(editor, m);
        if (e.faults.containsKey(file)) {
            e.faults.put(file, moveAll(e.faults.get(file), edit));
        }
        for (Request r : e.requests) {
            if (r.standing != SHOWN || r == applied) {
                continue;
            }
            if (r.kind == 2 || r.kind == 3) {
                if (r.file == file) {
                    r.items = moveAll(r.items, edit);
                }
            } else if (r.file == file || r.items.stream().anyMatch(s -> s.file == file)) {
                r.standing = STALE;
            }
        }
    }

    int request(int editor, int kind, int file, int line, int unit, int letter) {
        Editor e = editor(editor);
        fileAt(file);
        range(kind, 0, 5);
        range(line, 0, 1000);
        range(unit, 0, 1000);
        if (kind >= 4) {
            range(letter, 97, 122);
        }
        Doc doc = e.docs.get(file);
        if (doc == null || e.requests.size() == 40) {
            throw not();
        }
        Request r = new Request();
        r.kind = kind;
        r.file = file;
        r.letter = letter;
        e.requests.add(r);
        Message m = new Message(REQUEST);
        m.editor = editor;
        m.number = e.requests.size() - 1;
        m.asked = kind;
        m.file = file;
        m.version = doc.version;
        m.line = line;
        m.unit = unit;
        send(editor, m);
        return m.number;
    }

    void cancel(int editor, int request) {
        if (requestAt(editor, request).standing != WAITING) {
            throw not();
        }
        Message m = new Message(CANCEL);
        m.editor = editor;
        m.number = request;
        send(editor, m);
    }

    int apply(int editor, int request) {
        Request r = requestAt(editor, request);
        if (r.kind < 4 || r.standing != SHOWN || r.items.isEmpty()) {
            throw not();
        }
        int taken = named(r.letter);
        int changes = 0;
        if (r.kind == 5) {
            if (taken >= 0 || files.size() == 6) {
                throw not();
            }
            Span s = r.items.get(0);
            String text = editors[editor].docs.get(r.file).text;
            File f = new File();
            f.name = (char) r.letter;
            f.language = files.get(r.file).language;
            f.stored = of(text, s);
            files.add(f);
            replace(editor, s, -1, r);
            changes = 1;
        } else {
            for (Span s : r.items) {
                if (s.renames() && taken >= 0 && taken != s.file) {
                    throw not();
                }
            }
            for (int f = 0; f < files.size(); f++) {
                List<Span> spans = new ArrayList<>();
                for (Span s : r.items) {
                    if (s.file == f && s.renames()) {
                        files.get(f).name = (char) r.letter;
                    } else if (s.file == f) {
                        spans.add(s);
                    }
                }
                for (int i = spans.size() - 1; i >= 0; i--) {
                    replace(editor, spans.get(i), r.letter, r);
                    changes++;
                }
            }
        }
        r.standing = STALE;
        return changes;
    }

    private void replace(int editor, Span s, int code, Request applied) {
        String text = editors[editor].docs.get(s.file).text;
        int[] at = {line(text, s.start), unitIn(text, s.start), line(text, s.end), unitIn(text, s.end)};
        doChange(editor, s.file, at, code, applied);
    }

    // ---- servers at work

    int answer(int server, int index) {
        Server s = serverAt(server);
        if (index < 0 || index >= s.asked.size()) {
            throw out();
        }
        Asked a = s.asked.remove(index);
        Message m = new Message(ANSWER);
        m.id = a.id;
        m.asked = a.kind;
        m.file = a.file;
        m.version = -1;
        Doc doc = s.docs.get(a.file);
        if (doc != null) {
            m.version = doc.version;
            m.items = find(s, a, doc.text);
        }
        for (int f : s.docs.keySet()) {
            m.versions.put(f, s.docs.get(f).version);
        }
        int count = m.items.size();
        if (a.kind == 3 && doc != null) {
            m.tokens = code(m.items, doc.text);
            m.items = new ArrayList<>();
        }
        send(5 + server, m);
        return count;
    }

    private List<Span> find(Server s, Asked a, String text) {
        List<Span> runs = runs(text, s.style, a.file);
        Span at = null;
        for (Span r : runs) {
            if (at == null && r.start <= a.place && r.end >= a.place) {
                at = r;
            }
        }
        List<Span> found = new ArrayList<>();
        if (a.kind == 0) {
            String beginning = at == null ? "" : text.substring(at.start, a.place);
            TreeMap<String, Span> first = new TreeMap<>();
            for (Span r : runs) {
                String run = of(text, r);
                if (run.startsWith(beginning) && run.length() > beginning.length()) {
                    first.putIfAbsent(run, r);
                }
            }
            found.addAll(first.values());
        } else if (a.kind == 1 && at != null) {
            String run = of(text, at);
            int count = (int) runs.stream().filter(r -> of(text, r).equals(run)).count();
            found.add(new Span(a.file, at.start, at.end, count));
        } else if (a.kind == 2 && at != null) {
            String run = of(text, at);
            found.add(runs.stream().filter(r -> of(text, r).equals(run)).findFirst().get());
        } else if (a.kind == 3) {
            found.addAll(runs);
        } else if (a.kind == 4 && at != null) {
            String run = of(text, at);
            for (int f : s.docs.keySet()) {
                String other = s.docs.get(f).text;
                if (run.equals("" + files.get(f).name)) {
                    found.add(new Span(f, -1, -1, 0));
                }
                runs(other, s.style, f).stream().filter(r -> of(other, r).equals(run)).forEach(found::add);
            }
        } else if (a.kind == 5) {
            int place = Math.min(a.place, text.length());
            int start = place - unitIn(text, place);
            int end = text.indexOf('\n', start);
            end = end < 0 ? text.length() : end;
            if (end > start) {
                found.add(new Span(a.file, start, end, 0));
            }
        }
        return found;
    }

    int tellFaults(int server, int file) {
        Server s = serverAt(server);
        fileAt(file);
        Doc doc = s.docs.get(file);
        if (doc == null) {
            throw not();
        }
        Message m = new Message(FAULTS);
        m.file = file;
        m.version = doc.version;
        List<Span> runs = runs(doc.text, s.style, file);
        for (int i = 1; i < runs.size(); i++) {
            if (of(doc.text, runs.get(i)).equals(of(doc.text, runs.get(i - 1)))) {
                m.items.add(runs.get(i));
            }
        }
        send(5 + server, m);
        return m.items.size();
    }

    int crash(int server) {
        Server s = serverAt(server);
        if (!s.up) {
            throw not();
        }
        s.up = false;
        s.docs.clear();
        s.asked.clear();
        int lost = channels.get(2 + server).size() + channels.get(5 + server).size();
        channels.get(2 + server).clear();
        channels.get(5 + server).clear();
        for (Open open : new ArrayList<>(opens)) {
            if (open.waits.remove(server)) {
                finish(open);
            }
        }
        return lost;
    }

    int start(int server) {
        Server s = serverAt(server);
        if (s.up) {
            throw not();
        }
        s.up = true;
        int given = 0;
        for (int f : docs.keySet()) {
            if ((s.languages >> files.get(f).language & 1) == 1) {
                Message m = new Message(OPEN);
                m.file = f;
                m.version = docs.get(f).version;
                m.text = docs.get(f).text;
                send(2 + server, m);
                given++;
            }
        }
        return given;
    }

    int deliver(int channel) {
        if (channel < 0 || channel > 9) {
            throw out();
        }
        if (channels.get(channel).isEmpty()) {
            return -1;
        }
        Message m = channels.get(channel).remove(0);
        if (channel < 2) {
            fromEditor(m);
        } else if (channel < 5) {
            toServer(servers.get(channel - 2), m);
        } else if (channel < 8) {
            fromServer(channel - 5, m);
        } else {
            toEditor(editors[channel - 8], m);
        }
        return m.kind;
    }

    int deliverAll() {
        int count = 0;
        for (int c = 0; c < 10; c++) {
            if (!channels.get(c).isEmpty()) {
                deliver(c);
                count++;
                c = -1;
            }
        }
        return count;
    }

    int waiting(int channel) {
        if (channel < 0 || channel > 9) {
            throw out();
        }
        return channels.get(channel).size();
    }

    private void passOn(Message m) {
        for (int i = 0; i < servers.size(); i++) {
            Server s = servers.get(i);
            if (s.up && (s.languages >> files.get(m.file).language & 1) == 1) {
                send(2 + i, m);
            }
        }
    }

    private void fromEditor(Message m) {
        Doc doc = docs.get(m.file);
        if (m.kind == OPEN && m.version > taken.getOrDefault(m.file, -1)) {
            taken.put(m.file, m.version);
            docs.put(m.file, new Doc(m.version, m.text, m.editor));
            faults.remove(m.file);
            passOn(m);
        } else if (m.kind == CHANGE && doc != null && doc.version + 1 == m.version) {
            taken.put(m.file, m.version);
            Edit edit = doc.change(m.line, m.unit, m.toLine, m.toUnit, m.code);
            if (faults.containsKey(m.file)) {
                faults.get(m.file).replaceAll((s, spans) -> moveAll(spans, edit));
            }
            passOn(m);
        } else if (m.kind == CLOSE && doc != null && doc.version == m.version) {
            docs.remove(m.file);
            faults.remove(m.file);
            passOn(m);
        } else if (m.kind == REQUEST) {
            takeRequest(m);
        } else if (m.kind == CANCEL) {
            for (Open open : new ArrayList<>(opens)) {
                if (open.request.editor == m.editor && open.request.number == m.number) {
                    cancel(open);
                }
            }
        }
    }

    private void takeRequest(Message m) {
        for (Open open : new ArrayList<>(opens)) {
            Message r = open.request;
            if (r.editor == m.editor && r.asked == m.asked && r.file == m.file) {
                cancel(open);
            }
        }
        Open open = new Open();
        open.request = m;
        for (int i = 0; i < servers.size() && docs.containsKey(m.file); i++) {
            Server s = servers.get(i);
            boolean speaks = (s.languages >> files.get(m.file).language & 1) == 1;
            if (s.up && speaks && (s.kinds >> m.asked & 1) == 1) {
                Message q = new Message(REQUEST);
                q.id = nextId++;
                q.asked = m.asked;
                q.file = m.file;
                q.line = m.line;
                q.unit = m.unit;
                open.ids.put(i, q.id);
                open.waits.add(i);
                ids.put(m.editor + "/" + m.number + "/" + i, q.id);
                send(2 + i, q);
            }
        }
        if (open.waits.isEmpty()) {
            reply(m, NOBODY);
        } else {
            opens.add(open);
        }
    }

    private void cancel(Open open) {
        for (int s : open.waits) {
            Message m = new Message(CANCEL);
            m.id = open.ids.get(s);
            send(2 + s, m);
        }
        reply(open.request, CANCELLED);
        opens.remove(open);
    }

    private Message reply(Message request, int standing) {
        Message m = new Message(ANSWER);
        m.number = request.number;
        m.standing = standing;
        Doc doc = docs.get(request.file);
        m.version = doc == null ? -1 : doc.version;
        send(8 + request.editor, m);
        return m;
    }

    private void toServer(Server s, Message m) {
        Doc doc = s.docs.get(m.file);
        if (m.kind == OPEN) {
            s.docs.put(m.file, new Doc(m.version, m.text, m.editor));
        } else if (m.kind == CHANGE && doc != null) {
            Edit edit = doc.change(m.line, m.unit, m.toLine, m.toUnit, m.code);
            for (Asked a : s.asked) {
                if (a.file == m.file) {
                    a.place = edit.move(a.place);
                }
            }
        } else if (m.kind == CLOSE) {
            s.docs.remove(m.file);
        } else if (m.kind == REQUEST) {
            Asked a = new Asked();
            a.id = m.id;
            a.kind = m.asked;
            a.file = m.file;
            a.place = doc == null ? 0 : place(doc.text, m.line, m.unit);
            s.asked.add(a);
        } else if (m.kind == CANCEL) {
            s.asked.removeIf(a -> a.id == m.id);
        }
    }

    private void fromServer(int server, Message m) {
        if (m.kind == ANSWER) {
            for (Open open : new ArrayList<>(opens)) {
                if (open.waits.contains(server) && open.ids.get(server) == m.id) {
                    open.waits.remove(server);
                    open.answers.put(server, m);
                    finish(open);
                }
            }
            return;
        }
        Doc doc = docs.get(m.file);
        if (doc == null || m.version < doc.opened) {
            return;
        }
        TreeMap<Integer, List<Span>> kept = faults.computeIfAbsent(m.file, f -> new TreeMap<>());
        kept.put(server, doc.along(m.items, m.version));
        TreeSet<Span> all = new TreeSet<>(Comparator.comparing(Span::start).thenComparing(Span::end));
        for (List<Span> spans : kept.values()) {
            spans.forEach(s -> all.add(new Span(s.file, s.start, s.end, 0)));
        }
        Message told = new Message(FAULTS);
        told.file = m.file;
        told.version = doc.version;
        told.items.addAll(all);
        send(8 + doc.editor, told);
    }

    private void finish(Open open) {
        if (!open.waits.isEmpty()) {
            return;
        }
        opens.remove(open);
        Message r = open.request;
        Doc doc = docs.get(r.file);
        boolean exact = r.asked != 2 && r.asked != 3;
        if (doc == null || doc.opened > r.version || exact && doc.version != r.version) {
            reply(r, STALE);
            return;
        }
        List<Span> items = new ArrayList<>();
        boolean stale = false;
        if (r.asked == 0) {
            items = mergeRuns(open, doc.text);
        } else if (exact) {
            stale = mergeLowest(open, items);
        } else if (r.asked == 2) {
            TreeSet<Span> all = new TreeSet<>(Comparator.comparing(Span::start).thenComparing(Span::end));
            for (Message m : open.answers.values()) {
                if (m.version >= doc.opened) {
                    all.addAll(doc.along(m.items, m.version));
                }
            }
            items.addAll(all);
        } else {
            for (Message m : open.answers.values()) {
                if (m.version >= doc.opened) {
                    takeTokens(items, doc.along(decode(m.tokens, doc.texts.get(m.version), r.file), m.version));
                }
            }
            items.sort(Comparator.comparing(Span::start));
        }
        Message m = reply(r, stale ? STALE : SHOWN);
        m.file = r.file;
        m.asked = r.asked;
        if (r.asked == 3) {
            m.tokens = code(items, doc.text);
        } else {
            m.items = items;
        }
        for (Span s : items) {
            if (r.asked == 4) {
                m.versions.put(s.file, docs.get(s.file).version);
            }
        }
    }

    private List<Span> mergeRuns(Open open, String text) {
        TreeMap<String, Span> all = new TreeMap<>();
        for (Message m : open.answers.values()) {
            m.items.forEach(s -> all.putIfAbsent(of(text, s), s));
        }
        return new ArrayList<>(all.values());
    }

    private boolean mergeLowest(Open open, List<Span> items) {
        boolean leftOut = false;
        for (Message m : open.answers.values()) {
            boolean fits = true;
            for (Span s : m.items) {
                Doc doc = docs.get(s.file);
                if (open.request.asked == 4 && (doc == null || doc.version != m.versions.get(s.file))) {
                    fits = false;
                }
            }
            if (fits && items.isEmpty()) {
                items.addAll(m.items);
            }
            leftOut |= !fits;
        }
        return items.isEmpty() && leftOut;
    }

    private static void takeTokens(List<Span> items, List<Span> tokens) {
        Set<Integer> units = new HashSet<>();
        for (Span s : items) {
            for (int u = s.start; u < s.end; u++) {
                units.add(u);
            }
        }
        for (Span t : tokens) {
            boolean apart = true;
            for (int u = t.start; u < t.end; u++) {
                apart &= !units.contains(u);
            }
            if (apart) {
                items.add(t);
            }
        }
    }

    private void toEditor(Editor e, Message m) {
        if (m.kind == FAULTS) {
            Doc doc = e.docs.get(m.file);
            if (doc != null && doc.opened <= m.version) {
                e.faults.put(m.file, doc.along(m.items, m.version));
            }
            return;
        }
        Request r = e.requests.get(m.number);
        if (r.standing != WAITING) {
            return;
        }
        r.standing = m.standing;
        if (m.standing != SHOWN) {
            return;
        }
        Doc doc = e.docs.get(r.file);
        if (r.kind == 2 || r.kind == 3) {
            if (doc == null || doc.opened > m.version) {
                r.standing = STALE;
            } else {
                List<Span> items = r.kind == 3 ? decode(m.tokens, doc.texts.get(m.version), r.file) : m.items;
                r.items = doc.along(items, m.version);
            }
            return;
        }
        r.items = m.items;
        if (doc == null || doc.version != m.version) {
            r.standing = STALE;
        }
        for (Span s : m.items) {
            Doc other = e.docs.get(s.file);
            if (r.kind == 4 && (other == null || other.version != m.versions.get(s.file))) {
                r.standing = STALE;
            }
        }
    }

    // ---- copies

    private Doc copy(int whose, int file) {
        fileAt(file);
        if (whose < 0 || whose > 5) {
            throw out();
        }
        if (whose < 2) {
            return editors[whose].docs.get(file);
        }
        return whose == 2 ? docs.get(file) : serverAt(whose - 3).docs.get(file);
    }

    int version(int whose, int file) {
        Doc doc = copy(whose, file);
        return doc == null ? -1 : doc.version;
    }

    char unit(int whose, int file, int place) {
        Doc doc = copy(whose, file);
        if (doc == null || place < 0 || place >= doc.text.length()) {
            throw out();
        }
        return doc.text.charAt(place);
    }

    boolean agree(int file) {
        int holder = fileAt(file).holder;
        if (holder < 0) {
            return true;
        }
        TreeMap<Integer, String> texts = editors[holder].docs.get(file).texts;
        Function<Doc, Boolean> fits =
                doc -> doc == null || !texts.containsKey(doc.version) || texts.get(doc.version).equals(doc.text);
        return fits.apply(docs.get(file)) && servers.stream().allMatch(s -> fits.apply(s.docs.get(file)));
    }

    // ---- answers and faults

    int standing(int editor, int request) {
        Request r = requestAt(editor, request);
        return r.standing == SHOWN ? 10 * r.items.size() + SHOWN : r.standing;
    }

    private Span shown(int editor, int request, int index) {
        Request r = requestAt(editor, request);
        if (r.standing != SHOWN || index < 0 || index >= r.items.size()) {
            throw out();
        }
        return r.items.get(index);
    }

    private int told(int editor, Span s) {
        if (s.renames()) {
            return number(s.file, 127, 127, 127);
        }
        String text = editors[editor].docs.get(s.file).text;
        return number(s.file, line(text, s.start), unitIn(text, s.start), s.end - s.start);
    }

    private static int number(int file, int line, int unit, int units) {
        return 128 * 128 * 128 * file + 128 * 128 * line + 128 * unit + units;
    }

    int item(int editor, int request, int index) {
        return told(editor, shown(editor, request, index));
    }

    int value(int editor, int request, int index) {
        Span s = shown(editor, request, index);
        int kind = editors[editor].requests.get(request).kind;
        return kind == 1 || kind == 3 ? s.value : 0;
    }

    int token(int editor, int request, int index) {
        Request r = requestAt(editor, request);
        if (r.kind != 3 || r.standing != SHOWN || index < 0 || index >= 4 * r.items.size()) {
            throw out();
        }
        return code(r.items, editors[editor].docs.get(r.file).text)[index];
    }

    int id(int editor, int request, int server) {
        requestAt(editor, request);
        serverAt(server);
        return ids.getOrDefault(editor + "/" + request + "/" + server, -1);
    }

    int faults(int editor, int file) {
        Editor e = editor(editor);
        fileAt(file);
        return e.faults.getOrDefault(file, List.of()).size();
    }

    int fault(int editor, int file, int index) {
        if (index < 0 || index >= faults(editor, file)) {
            throw out();
        }
        return told(editor, editors[editor].faults.get(file).get(index));
    }
}
