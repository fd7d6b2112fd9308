import java.util.List;

/** For each promise of the document: ordinary inputs, the edges that it names, and wrong inputs. */
public final class PromisesTest extends Checks {
    public static void main(String[] args) {
        run("promise 1 a new object", PromisesTest::newObject);
        run("promise 2 file", PromisesTest::file);
        run("promise 3 store", PromisesTest::store);
        run("promise 4 server", PromisesTest::server);
        run("promise 5 name", PromisesTest::name);
        run("promise 6 open", PromisesTest::open);
        run("promise 7 close", PromisesTest::close);
        run("promise 8 change", PromisesTest::change);
        run("promise 8 change: positions", PromisesTest::positions);
        run("promise 9 request", PromisesTest::request);
        run("promise 10 cancel", PromisesTest::cancel);
        run("promise 11 apply: rename", PromisesTest::applyRename);
        run("promise 11 apply: extract", PromisesTest::applyExtract);
        run("promise 12 answer", PromisesTest::answer);
        run("promise 12 answer: kinds", PromisesTest::kinds);
        run("promise 12 answer: places are moved", PromisesTest::places);
        run("promise 13 tellFaults", PromisesTest::tellFaults);
        run("promise 14 crash", PromisesTest::crash);
        run("promise 15 start", PromisesTest::start);
        run("promise 16 deliver", PromisesTest::deliver);
        run("promise 16 deliver: late messages", PromisesTest::late);
        run("promise 17 deliverAll", PromisesTest::deliverAll);
        run("promise 18 waiting", PromisesTest::waiting);
        run("promise 19 version", PromisesTest::version);
        run("promise 20 unit", PromisesTest::unit);
        run("promise 21 agree", PromisesTest::agree);
        run("promise 22 standing", PromisesTest::standing);
        run("promise 22 standing: stale", PromisesTest::stale);
        run("promise 22 standing: rename over files", PromisesTest::renameStale);
        run("promise 23 item", PromisesTest::item);
        run("promise 23 item: merged", PromisesTest::merged);
        run("promise 24 value", PromisesTest::value);
        run("promise 25 token", PromisesTest::token);
        run("promise 26 id", PromisesTest::id);
        run("promise 27 faults", PromisesTest::faults);
        run("promise 28 fault", PromisesTest::fault);
        finish("PromisesTest");
    }

    // ---- files and servers

    private static void newObject() {
        ToolPlex x = new ToolPlex();
        throwsJust(OUT, () -> x.name(0));
        throwsJust(OUT, () -> x.answer(0, 0));
        due(x.deliverAll(), 0);
        for (int c = 0; c < 10; c++) {
            due(x.waiting(c), 0);
            due(x.deliver(c), -1);
        }
        due(List.of(ToolPlex.WAITING, ToolPlex.SHOWN, ToolPlex.CANCELLED, ToolPlex.STALE, ToolPlex.NOBODY),
                List.of(0, 1, 2, 3, 4));
        due(List.of(ToolPlex.OPEN, ToolPlex.CHANGE, ToolPlex.CLOSE, ToolPlex.REQUEST, ToolPlex.CANCEL,
                ToolPlex.ANSWER, ToolPlex.FAULTS), List.of(0, 1, 2, 3, 4, 5, 6));
    }

    private static void file() {
        ToolPlex x = new ToolPlex();
        throwsJust(BAD, () -> x.file(96, 0));
        throwsJust(BAD, () -> x.file(123, 0));
        throwsJust(BAD, () -> x.file('a', -1));
        throwsJust(BAD, () -> x.file('a', 3));
        throwsJust(BAD, () -> x.file(Integer.MIN_VALUE, Integer.MAX_VALUE));
        due(x.file('a', 0), 0);
        throwsJust(NOT, () -> x.file('a', 1));
        due(x.file('z', 2), 1);
        for (int i = 2; i < 6; i++) {
            due(x.file('a' + i, i % 3), i);
        }
        throwsJust(NOT, () -> x.file('y', 0));
        throwsJust(BAD, () -> x.file('y', 3));
        due(x.open(0, 5), 1);
        throwsJust(OUT, () -> x.unit(0, 5, 0));
    }

    private static void store() {
        ToolPlex x = plex("");
        for (int code : new int[] {'a', 'z', '0', '9', ' ', '\n'}) {
            x.store(0, code);
        }
        due(x.store(0, FACE), 8);
        due(x.store(0, 128591), 10);
        for (int code : new int[] {-1, 0, 9, 11, 31, 33, 47, 58, 96, 123, 128511, 128592, 0xD83D, Integer.MAX_VALUE}) {
            throwsJust(BAD, () -> x.store(0, code));
        }
        throwsJust(OUT, () -> x.store(-1, 0));
        throwsJust(OUT, () -> x.store(1, 'a'));
        x.open(1, 0);
        throwsJust(NOT, () -> x.store(0, 'a'));
        throwsJust(BAD, () -> x.store(0, 'A'));
        due(text(x, 1, 0), "az09 \n\uD83D\uDE00\uD83D\uDE4F");
        x.close(1, 0);
        for (int i = 11; i < 100; i++) {
            due(x.store(0, 'b'), i);
        }
        throwsJust(NOT, () -> x.store(0, FACE));
        due(x.store(0, 'b'), 100);
        throwsJust(NOT, () -> x.store(0, 'b'));
    }

    private static void server() {
        ToolPlex x = plex("a");
        throwsJust(BAD, () -> x.server(0, 1, 0));
        throwsJust(BAD, () -> x.server(64, 1, 0));
        throwsJust(BAD, () -> x.server(1, 0, 0));
        throwsJust(BAD, () -> x.server(1, 8, 0));
        throwsJust(BAD, () -> x.server(1, 1, -1));
        throwsJust(BAD, () -> x.server(1, 1, 3));
        due(x.server(63, 7, 2), 0);
        due(x.server(1, 1, 0), 1);
        x.open(0, 0);
        throwsJust(NOT, () -> x.server(1, 1, 0));
        x.deliverAll();
        x.close(0, 0);
        throwsJust(NOT, () -> x.server(1, 1, 0));
        x.deliverAll();
        due(x.server(1, 1, 0), 2);
        throwsJust(NOT, () -> x.server(1, 1, 0));
        throwsJust(BAD, () -> x.server(1, 1, 3));
        // messages that wait do not matter: only copies do
        ToolPlex y = plex("a");
        y.open(0, 0);
        y.close(0, 0);
        due(y.server(1, 1, 0), 0);
        due(y.deliverAll(), 4);
    }

    private static void name() {
        ToolPlex x = new ToolPlex();
        x.file('q', 1);
        due(x.name(0), 'q');
        throwsJust(OUT, () -> x.name(-1));
        throwsJust(OUT, () -> x.name(1));
        throwsJust(OUT, () -> x.name(6));
        throwsJust(OUT, () -> x.name(Integer.MAX_VALUE));
    }

    // ---- editors

    private static void open() {
        ToolPlex x = plex("ab", "c");
        throwsJust(OUT, () -> x.open(-1, 0));
        throwsJust(OUT, () -> x.open(2, 0));
        throwsJust(OUT, () -> x.open(0, 2));
        throwsJust(OUT, () -> x.open(0, -1));
        due(x.open(0, 0), 1);
        throwsJust(NOT, () -> x.open(0, 0));
        throwsJust(NOT, () -> x.open(1, 0));
        due(x.open(1, 1), 1);
        due(text(x, 0, 0), "ab");
        due(x.waiting(0), 1);
        due(x.waiting(1), 1);
        x.change(0, 0, 0, 0, 0, 0, 'x');
        x.close(0, 0);
        due(x.open(1, 0), 3);
        due(text(x, 1, 0), "xab");
    }

    private static void close() {
        ToolPlex x = opened(2, "aa aa");
        throwsJust(OUT, () -> x.close(2, 0));
        throwsJust(OUT, () -> x.close(0, 1));
        throwsJust(NOT, () -> x.close(1, 0));
        int request = ask(x, 1, DEFINITION, 0, 0);
        x.tellFaults(0, 0);
        x.deliverAll();
        due(x.faults(0, 0), 1);
        due(x.standing(0, request), 11);
        x.close(0, 0);
        due(x.standing(0, request), 3);
        due(x.faults(0, 0), 0);
        due(x.version(0, 0), -1);
        due(x.waiting(0), 1);
        throwsJust(NOT, () -> x.close(0, 0));
        due(x.deliver(0), 2);
        due(x.version(2, 0), -1);
        due(x.version(3, 0), 1);
        due(x.deliver(2), 2);
        due(x.version(3, 0), -1);
    }

    private static void change() {
        ToolPlex x = plex("ab");
        throwsJust(NOT, () -> x.change(0, 0, 0, 0, 0, 0, 'c'));
        x.open(0, 0);
        throwsJust(NOT, () -> x.change(1, 0, 0, 0, 0, 0, 'c'));
        throwsJust(OUT, () -> x.change(2, 0, 0, 0, 0, 0, 'c'));
        throwsJust(OUT, () -> x.change(0, 1, -1, 0, 0, 0, 'c'));
        throwsJust(BAD, () -> x.change(0, 0, -1, 0, 0, 0, 'c'));
        throwsJust(BAD, () -> x.change(0, 0, 1001, 0, 0, 0, 'c'));
        throwsJust(BAD, () -> x.change(0, 0, 0, -1, 0, 0, 'c'));
        throwsJust(BAD, () -> x.change(0, 0, 0, 1001, 0, 0, 'c'));
        throwsJust(BAD, () -> x.change(0, 0, 0, 0, -1, 0, 'c'));
        throwsJust(BAD, () -> x.change(0, 0, 0, 0, 1001, 0, 'c'));
        throwsJust(BAD, () -> x.change(0, 0, 0, 0, 0, -1, 'c'));
        throwsJust(BAD, () -> x.change(0, 0, 0, 0, 0, 1001, 'c'));
        throwsJust(BAD, () -> x.change(0, 0, 0, 0, 0, 0, -2));
        throwsJust(BAD, () -> x.change(0, 0, 0, 0, 0, 0, 'A'));
        throwsJust(NOT, () -> x.change(0, 0, 0, 2, 0, 1, 'c'));
        due(x.version(0, 0), 1);
        due(x.change(0, 0, 1000, 1000, 1000, 1000, 'c'), 2);
        due(text(x, 0, 0), "abc");
        due(x.change(0, 0, 0, 1, 0, 2, FACE), 3);
        due(text(x, 0, 0), "a\uD83D\uDE00c");
        due(x.change(0, 0, 0, 1, 0, 3, -1), 4);
        due(text(x, 0, 0), "ac");
        due(x.change(0, 0, 0, 1, 0, 1, -1), 5);
        due(text(x, 0, 0), "ac");
        for (int i = 3; i <= 100; i++) {
            due(x.change(0, 0, 0, 0, 0, 0, 'd'), i + 3);
        }
        throwsJust(NOT, () -> x.change(0, 0, 0, 0, 0, 0, 'd'));
        throwsJust(NOT, () -> x.change(0, 0, 0, 0, 0, 1, FACE));
        due(x.change(0, 0, 0, 0, 0, 2, FACE), 104);
        due(x.waiting(0), 104);
        due(x.deliverAll(), 104);
        due(text(x, 2, 0), text(x, 0, 0));
    }

    private static void positions() {
        String text = "ab\n" + "\uD83D\uDE00c\n" + "\n" + "d";
        int[][] places = {{0, 0, 0}, {0, 2, 2}, {0, 3, 2}, {0, 1000, 2}, {1, 0, 3}, {1, 1, 3}, {1, 2, 5}, {1, 3, 6},
            {1, 4, 6}, {2, 0, 7}, {2, 1, 7}, {3, 0, 8}, {3, 1, 9}, {3, 2, 9}, {4, 0, 9}, {1000, 0, 9}};
        for (int[] at : places) {
            ToolPlex x = plex(text);
            x.open(0, 0);
            x.change(0, 0, at[0], at[1], at[0], at[1], 'x');
            due(text(x, 0, 0), text.substring(0, at[2]) + "x" + text.substring(at[2]));
        }
        ToolPlex y = plex("ab\n");
        y.open(0, 0);
        y.change(0, 0, 1, 0, 1, 0, 'x');
        due(text(y, 0, 0), "ab\nx");
    }

    private static void request() {
        ToolPlex x = plex("ab");
        x.server(63, 7, 2);
        throwsJust(NOT, () -> x.request(0, 0, 0, 0, 0, 0));
        x.open(0, 0);
        throwsJust(NOT, () -> x.request(1, 0, 0, 0, 0, 0));
        throwsJust(OUT, () -> x.request(2, 9, 0, 0, 0, 0));
        throwsJust(OUT, () -> x.request(0, 9, 1, 0, 0, 0));
        throwsJust(BAD, () -> x.request(0, -1, 0, 0, 0, 'a'));
        throwsJust(BAD, () -> x.request(0, 6, 0, 0, 0, 'a'));
        throwsJust(BAD, () -> x.request(0, 0, 0, -1, 0, 'a'));
        throwsJust(BAD, () -> x.request(0, 0, 0, 1001, 0, 'a'));
        throwsJust(BAD, () -> x.request(0, 0, 0, 0, -1, 'a'));
        throwsJust(BAD, () -> x.request(0, 0, 0, 0, 1001, 'a'));
        throwsJust(BAD, () -> x.request(0, 4, 0, 0, 0, 96));
        throwsJust(BAD, () -> x.request(0, 5, 0, 0, 0, 123));
        due(x.request(0, 3, 0, 0, 0, -5), 0);
        due(x.request(0, 4, 0, 1000, 1000, 'a'), 1);
        due(x.standing(0, 0), 0);
        due(x.waiting(0), 3);
        for (int i = 2; i < 40; i++) {
            due(x.request(0, i % 4, 0, 0, 0, 0), i);
        }
        throwsJust(NOT, () -> x.request(0, 0, 0, 0, 0, 0));
        x.close(0, 0);
        x.open(1, 0);
        due(x.request(1, 0, 0, 0, 0, 0), 0);
    }

    private static void cancel() {
        ToolPlex x = opened(2, "ab");
        int first = x.request(0, HOVER, 0, 0, 0, 0);
        throwsJust(OUT, () -> x.cancel(2, 0));
        throwsJust(OUT, () -> x.cancel(0, 1));
        throwsJust(OUT, () -> x.cancel(0, -1));
        throwsJust(OUT, () -> x.cancel(1, 0));
        x.deliverAll();
        x.cancel(0, first);
        due(x.standing(0, first), 0);
        x.cancel(0, first);
        due(x.waiting(0), 2);
        due(x.deliver(0), 4);
        due(x.waiting(2), 1);
        due(x.waiting(8), 1);
        due(x.deliver(0), 4);
        due(x.waiting(2), 1);
        due(x.waiting(8), 1);
        due(x.deliver(2), 4);
        throwsJust(OUT, () -> x.answer(0, 0));
        due(x.deliver(8), 5);
        due(x.standing(0, first), 2);
        throwsJust(NOT, () -> x.cancel(0, first));
        // the answer comes first: the cancelling is too late
        int second = x.request(0, HOVER, 0, 0, 0, 0);
        x.deliverAll();
        x.answer(0, 0);
        x.deliver(5);
        x.cancel(0, second);
        x.deliverAll();
        due(x.standing(0, second), 11);
        // the cancelling comes first: the answer is dropped
        int third = x.request(0, HOVER, 0, 0, 0, 0);
        x.deliverAll();
        x.answer(0, 0);
        x.cancel(0, third);
        x.deliverAll();
        due(x.standing(0, third), 2);
    }

    private static void applyRename() {
        ToolPlex x = plex("a b\na aa", "b a", "aaa");
        x.server(63, 7, 0);
        for (int f = 0; f < 3; f++) {
            x.open(0, f);
        }
        int hover = x.request(0, HOVER, 2, 0, 0, 0);
        int tokens = x.request(0, TOKENS, 0, 0, 0, 0);
        int completion = x.request(0, COMPLETION, 1, 0, 0, 0);
        int rename = ask(x, 1, RENAME, 1, 1);
        due(items(x, 0, rename), List.of(at(0, 127, 127, 127), at(0, 0, 0, 1), at(0, 1, 0, 1), at(1, 0, 2, 1)));
        throwsJust(OUT, () -> x.apply(2, 0));
        throwsJust(OUT, () -> x.apply(0, 4));
        throwsJust(NOT, () -> x.apply(0, hover));
        due(x.apply(0, rename), 3);
        due(x.name(0), 'z');
        due(List.of(text(x, 0, 0), text(x, 0, 1), text(x, 0, 2)), List.of("z b\nz aa", "b z", "aaa"));
        due(List.of(x.version(0, 0), x.version(0, 1), x.version(0, 2)), List.of(3, 2, 1));
        due(List.of(x.standing(0, rename), x.standing(0, hover), x.standing(0, completion), x.standing(0, tokens)),
                List.of(3, 11, 3, 21));
        throwsJust(NOT, () -> x.apply(0, rename));
        due(x.waiting(0), 3);
        x.deliverAll();
        due(text(x, 2, 0), "z b\nz aa");
        // with no run alike there is nothing to apply
        int none = x.request(0, RENAME, 0, 0, 2, 'y');
        due(x.standing(0, none), 0);
        throwsJust(NOT, () -> x.apply(0, none));
        // the name is taken by another file, but may be the file's own
        ToolPlex y = plex("a", "c");
        y.server(63, 7, 2);
        y.open(0, 0);
        int taken = y.request(0, RENAME, 0, 0, 0, 'b');
        answers(y, 1);
        due(y.standing(0, taken), 21);
        throwsJust(NOT, () -> y.apply(0, taken));
        due(y.standing(0, taken), 21);
        int same = y.request(0, RENAME, 0, 0, 0, 'a');
        answers(y, 1);
        due(y.apply(0, same), 1);
        due(y.version(0, 0), 2);
        // without an item that renames a file, a taken name does not matter
        ToolPlex w = opened(2, "12");
        int number = w.request(0, RENAME, 0, 0, 0, 'a');
        answers(w, 1);
        due(items(w, 0, number), List.of(at(0, 0, 0, 2)));
        due(w.apply(0, number), 1);
        due(text(w, 0, 0), "a");
        ToolPlex blank = opened(2, " ");
        int nothing = ask(blank, 1, RENAME, 0, 0);
        due(blank.standing(0, nothing), 1);
        throwsJust(NOT, () -> blank.apply(0, nothing));
    }

    private static void applyExtract() {
        ToolPlex x = plex("ab\nc 1\n\uD83D\uDE00");
        x.server(63, 7, 2);
        x.open(0, 0);
        int first = x.request(0, EXTRACT, 0, 1, 1, 'a');
        answers(x, 1);
        due(items(x, 0, first), List.of(at(0, 1, 0, 3)));
        throwsJust(NOT, () -> x.apply(0, first));
        int second = ask(x, 1, EXTRACT, 1, 3);
        due(x.apply(0, second), 1);
        due(x.standing(0, second), 3);
        due(x.standing(0, first), 3);
        due(x.name(1), 'z');
        due(text(x, 0, 0), "ab\n\n\uD83D\uDE00");
        due(x.version(0, 0), 2);
        due(x.open(1, 1), 1);
        due(text(x, 1, 1), "c 1");
        int empty = x.request(0, EXTRACT, 0, 1, 0, 'y');
        answers(x, 1);
        due(x.standing(0, empty), 1);
        throwsJust(NOT, () -> x.apply(0, empty));
        for (int f = 2; f < 6; f++) {
            x.file('a' + f, 0);
        }
        int full = x.request(0, EXTRACT, 0, 2, 0, 'y');
        answers(x, 1);
        due(items(x, 0, full), List.of(at(0, 2, 0, 2)));
        throwsJust(NOT, () -> x.apply(0, full));
        // the new file has the language of the old one
        ToolPlex y = new ToolPlex();
        y.file('a', 2);
        y.store(0, 'b');
        y.server(63, 4, 2);
        y.open(0, 0);
        int third = ask(y, 1, EXTRACT, 0, 0);
        due(y.apply(0, third), 1);
        y.open(1, 1);
        y.deliverAll();
        due(text(y, 3, 1), "b");
    }

    // ---- servers at work

    private static void answer() {
        ToolPlex x = opened(2, "ab 1 ab");
        throwsJust(OUT, () -> x.answer(0, 0));
        throwsJust(OUT, () -> x.answer(1, 0));
        throwsJust(OUT, () -> x.answer(-1, 0));
        x.request(0, HOVER, 0, 0, 0, 0);
        x.request(0, TOKENS, 0, 0, 0, 0);
        x.request(0, EXTRACT, 0, 5, 0, Z);
        throwsJust(OUT, () -> x.answer(0, 0));
        x.deliverAll();
        throwsJust(OUT, () -> x.answer(0, 3));
        throwsJust(OUT, () -> x.answer(0, -1));
        due(x.answer(0, 1), 3);
        due(x.waiting(5), 1);
        throwsJust(OUT, () -> x.answer(0, 2));
        due(x.answer(0, 1), 1);
        due(x.answer(0, 0), 1);
        throwsJust(OUT, () -> x.answer(0, 0));
        due(x.deliverAll(), 6);
        due(x.standing(0, 1), 31);
        // a copy that is gone: no items
        x.request(0, TOKENS, 0, 0, 0, 0);
        x.close(0, 0);
        x.deliverAll();
        due(x.answer(0, 0), 0);
        x.deliverAll();
        due(x.standing(0, 3), 3);
    }

    private static void kinds() {
        String text = "ab12 ba\n12 abc ab a1";
        ToolPlex words = opened(0, text);
        ToolPlex numbers = opened(1, text);
        ToolPlex both = opened(2, text);
        // completion: what lies ahead of the place is the beginning
        due(items(words, 0, ask(words, 1, COMPLETION, 0, 1)), List.of(at(0, 0, 0, 2), at(0, 1, 3, 3)));
        due(items(words, 0, ask(words, 1, COMPLETION, 0, 2)), List.of(at(0, 1, 3, 3)));
        due(items(words, 0, ask(words, 1, COMPLETION, 0, 3)),
                List.of(at(0, 1, 10, 1), at(0, 0, 0, 2), at(0, 1, 3, 3), at(0, 0, 5, 2)));
        due(items(numbers, 0, ask(numbers, 1, COMPLETION, 0, 3)), List.of(at(0, 0, 2, 2)));
        due(items(numbers, 0, ask(numbers, 1, COMPLETION, 0, 2)), List.of(at(0, 1, 11, 1), at(0, 0, 2, 2)));
        due(items(both, 0, ask(both, 1, COMPLETION, 0, 5)), List.of(at(0, 1, 11, 1), at(0, 0, 2, 2),
                at(0, 1, 10, 1), at(0, 0, 0, 2), at(0, 1, 3, 3), at(0, 0, 5, 2)));
        due(items(both, 0, ask(both, 1, COMPLETION, 0, 4)), List.of());
        // the ends of the alphabet, and a shorter run ahead, whatever comes behind it
        ToolPlex ends = opened(2, "1a 12 a\uD83D\uDE00 ab az09 za");
        due(items(ends, 0, ask(ends, 1, TOKENS, 0, 0)).size(), 8);
        due(items(ends, 0, ask(ends, 1, COMPLETION, 0, 16)), List.of(at(0, 0, 15, 2)));
        due(items(ends, 0, ask(ends, 1, COMPLETION, 1, 0)), List.of());
        due(items(ends, 0, ask(ends, 1, COMPLETION, 0, 3)), List.of(at(0, 0, 15, 2), at(0, 0, 0, 1), at(0, 0, 3, 2),
                at(0, 0, 1, 1), at(0, 0, 10, 2), at(0, 0, 13, 2), at(0, 0, 18, 2)));
        ToolPlex shorter = opened(1, " 1a 12");
        due(items(shorter, 0, ask(shorter, 1, COMPLETION, 0, 0)), List.of(at(0, 0, 1, 1), at(0, 0, 4, 2)));
        ToolPlex longer = opened(1, "12 1a");
        due(items(longer, 0, ask(longer, 1, COMPLETION, 0, 3)), List.of(at(0, 0, 3, 1), at(0, 0, 0, 2)));
        // hover and definition: the first run that touches the place
        due(items(both, 0, ask(both, 1, HOVER, 0, 2)), List.of(at(0, 0, 0, 2)));
        due(items(numbers, 0, ask(numbers, 1, HOVER, 0, 2)), List.of(at(0, 0, 2, 2)));
        due(items(words, 0, ask(words, 1, HOVER, 1, 1)), List.of());
        due(items(both, 0, ask(both, 1, DEFINITION, 1, 8)), List.of(at(0, 0, 0, 2)));
        due(items(words, 0, ask(words, 1, DEFINITION, 1, 9)), List.of(at(0, 0, 0, 2)));
        due(items(both, 0, ask(both, 1, DEFINITION, 1, 2)), List.of(at(0, 0, 2, 2)));
        // tokens
        due(ask(words, 1, TOKENS, 0, 0) >= 0 ? words.standing(0, 5) : -1, 51);
        due(items(numbers, 0, ask(numbers, 1, TOKENS, 9, 9)),
                List.of(at(0, 0, 2, 2), at(0, 1, 0, 2), at(0, 1, 11, 1)));
        // extract: without the end of the line, at its end too
        due(items(both, 0, ask(both, 1, EXTRACT, 0, 7)), List.of(at(0, 0, 0, 7)));
        due(items(both, 0, ask(both, 1, EXTRACT, 1, 0)), List.of(at(0, 1, 0, 12)));
        // rename: numbers too, and a file without such runs but with that name
        due(items(numbers, 0, ask(numbers, 1, RENAME, 1, 2)), List.of(at(0, 0, 2, 2), at(0, 1, 0, 2)));
        ToolPlex y = plex("c b", "c", "");
        y.server(63, 7, 0);
        for (int f = 0; f < 3; f++) {
            y.open(0, f);
        }
        due(items(y, 0, ask(y, 1, RENAME, 0, 0)), List.of(at(0, 0, 0, 1), at(1, 0, 0, 1), at(2, 127, 127, 127)));
    }

    private static void places() {
        // a place behind the change moves, one within it becomes its beginning, one ahead of it stays
        int[][] changes = {{0, 0, 'x', 1}, {0, 3, -1, 1}, {3, 4, -1, 1}, {4, 5, -1, 1}, {5, 9, -1, 1},
            {2, 6, -1, 0}, {2, 7, -1, 1}};
        for (int[] c : changes) {
            ToolPlex x = opened(0, "   bb  cc");
            x.request(0, HOVER, 0, 0, 4, 0);
            x.deliverAll();
            x.change(0, 0, 0, c[0], 0, c[1], c[2]);
            x.deliverAll();
            due(x.answer(0, 0), c[3]);
        }
        ToolPlex just = opened(0, "ab cd");
        just.request(0, HOVER, 0, 0, 2, 0);
        just.deliverAll();
        just.change(0, 0, 0, 2, 0, 2, ' ');
        just.deliverAll();
        due(just.answer(0, 0), 0);
        ToolPlex y = opened(0, "ab cd");
        int request = y.request(0, DEFINITION, 0, 0, 4, 0);
        y.deliverAll();
        y.change(0, 0, 0, 0, 0, 0, FACE);
        y.deliverAll();
        y.answer(0, 0);
        y.deliverAll();
        due(items(y, 0, request), List.of(at(0, 0, 5, 2)));
        // the place 4 lies within what is replaced: it becomes 1, which is at "a"
        ToolPlex z = opened(0, "abbb cd");
        request = z.request(0, DEFINITION, 0, 0, 4, 0);
        z.deliverAll();
        z.change(0, 0, 0, 1, 0, 5, ' ');
        z.deliverAll();
        z.answer(0, 0);
        z.deliverAll();
        due(items(z, 0, request), List.of(at(0, 0, 0, 1)));
    }

    private static void tellFaults() {
        ToolPlex words = opened(0, "ab 1 ab ab 1\n1");
        ToolPlex numbers = opened(1, "ab 1 ab ab 1\n1");
        ToolPlex both = opened(2, "ab 1 ab ab 1\n1");
        due(List.of(words.tellFaults(0, 0), numbers.tellFaults(0, 0), both.tellFaults(0, 0)), List.of(2, 2, 2));
        words.deliverAll();
        numbers.deliverAll();
        both.deliverAll();
        due(shownFaults(words, 0, 0), List.of(at(0, 0, 5, 2), at(0, 0, 8, 2)));
        due(shownFaults(numbers, 0, 0), List.of(at(0, 0, 11, 1), at(0, 1, 0, 1)));
        due(shownFaults(both, 0, 0), List.of(at(0, 0, 8, 2), at(0, 1, 0, 1)));
        throwsJust(OUT, () -> words.tellFaults(1, 0));
        throwsJust(OUT, () -> words.tellFaults(-1, 0));
        throwsJust(OUT, () -> words.tellFaults(0, 1));
        words.close(0, 0);
        due(words.tellFaults(0, 0), 2);
        words.deliverAll();
        throwsJust(NOT, () -> words.tellFaults(0, 0));
        due(words.faults(0, 0), 0);
    }

    private static void crash() {
        ToolPlex x = plex("ab ab");
        x.server(63, 7, 0);
        x.server(63, 7, 0);
        x.open(0, 0);
        x.deliverAll();
        throwsJust(OUT, () -> x.crash(2));
        throwsJust(OUT, () -> x.crash(-1));
        int hover = x.request(0, HOVER, 0, 0, 0, 0);
        int tokens = x.request(0, TOKENS, 0, 0, 0, 0);
        x.deliver(0);
        x.deliver(0);
        x.deliver(2);
        x.deliver(2);
        x.deliver(3);
        due(x.answer(0, 0), 1);
        due(x.answer(0, 0), 2);
        due(x.answer(1, 0), 1);
        x.tellFaults(1, 0);
        due(x.crash(1), 3);
        throwsJust(NOT, () -> x.crash(1));
        due(List.of(x.waiting(3), x.waiting(6), x.version(4, 0)), List.of(0, 0, -1));
        throwsJust(OUT, () -> x.answer(1, 0));
        throwsJust(NOT, () -> x.tellFaults(1, 0));
        due(x.waiting(8), 0);
        due(x.deliverAll(), 4);
        due(x.standing(0, hover), 11);
        due(x.standing(0, tokens), 21);
        // when the last server crashes, its requests are answered at once, in their order
        x.request(0, HOVER, 0, 0, 0, 0);
        x.request(0, COMPLETION, 0, 0, 1, 0);
        x.deliverAll();
        due(x.crash(0), 0);
        due(x.waiting(8), 2);
        x.deliver(8);
        due(List.of(x.standing(0, 2), x.standing(0, 3)), List.of(1, 0));
        x.deliver(8);
        due(x.standing(0, 3), 1);
        x.request(0, HOVER, 0, 0, 0, 0);
        x.deliverAll();
        due(x.standing(0, 4), 4);
    }

    private static void start() {
        ToolPlex x = plex("ab", "c", "d");
        x.file('q', 1);
        x.server(63, 1, 0);
        x.server(63, 2, 0);
        throwsJust(OUT, () -> x.start(2));
        throwsJust(NOT, () -> x.start(0));
        x.open(0, 2);
        x.open(1, 0);
        x.open(0, 3);
        x.deliverAll();
        x.crash(0);
        x.change(1, 0, 0, 0, 0, 0, 'z');
        x.deliverAll();
        due(x.waiting(2), 0);
        x.change(1, 0, 0, 0, 0, 0, 'y');
        due(x.start(0), 2);
        throwsJust(NOT, () -> x.start(0));
        due(x.waiting(2), 2);
        due(x.deliver(2), 0);
        due(List.of(x.version(3, 0), x.version(3, 2)), List.of(2, -1));
        due(text(x, 3, 0), "zab");
        x.deliverAll();
        due(text(x, 3, 0), "yzab");
        due(text(x, 3, 2), "d");
        due(x.version(3, 3), -1);
        x.crash(1);
        due(x.start(1), 1);
    }

    private static void deliver() {
        ToolPlex x = plex("aa aa");
        x.server(63, 7, 0);
        throwsJust(OUT, () -> x.deliver(-1));
        throwsJust(OUT, () -> x.deliver(10));
        due(x.deliver(4), -1);
        x.open(1, 0);
        x.change(1, 0, 0, 0, 0, 0, 'b');
        x.request(1, TOKENS, 0, 0, 0, 0);
        due(List.of(x.deliver(1), x.deliver(1), x.deliver(1), x.deliver(1)), List.of(0, 1, 3, -1));
        due(List.of(x.deliver(2), x.deliver(2), x.deliver(2), x.deliver(2)), List.of(0, 1, 3, -1));
        x.answer(0, 0);
        x.tellFaults(0, 0);
        due(List.of(x.deliver(5), x.deliver(5), x.deliver(5)), List.of(5, 6, -1));
        due(List.of(x.deliver(9), x.deliver(9), x.deliver(9)), List.of(5, 6, -1));
        x.close(1, 0);
        due(List.of(x.deliver(1), x.deliver(2)), List.of(2, 2));
        // a server that does not deal with the language, or with the kind, is sent nothing
        ToolPlex y = plex("a");
        y.server(63, 6, 0);
        y.server(1, 1, 0);
        y.open(0, 0);
        y.request(0, HOVER, 0, 0, 0, 0);
        y.request(0, COMPLETION, 0, 0, 0, 0);
        y.deliver(0);
        y.deliver(0);
        due(List.of(y.waiting(2), y.waiting(3), y.waiting(8)), List.of(0, 1, 1));
        y.deliver(0);
        due(List.of(y.waiting(2), y.waiting(3), y.waiting(8)), List.of(0, 2, 1));
    }

    /** What comes late from one editor does not touch what the other one has opened since. */
    private static void late() {
        ToolPlex x = plex("aa");
        x.server(63, 7, 0);
        x.open(0, 0);
        int request = x.request(0, HOVER, 0, 0, 0, 0);
        x.change(0, 0, 0, 0, 0, 0, 'b');
        x.close(0, 0);
        x.open(1, 0);
        x.change(1, 0, 0, 0, 0, 0, 'c');
        x.deliver(1);
        due(x.version(2, 0), 3);
        due(List.of(x.deliver(0), x.deliver(0), x.deliver(0), x.deliver(0)), List.of(0, 3, 1, 2));
        due(x.version(2, 0), 3);
        due(text(x, 2, 0), "baa");
        due(x.deliver(1), 1);
        due(text(x, 2, 0), "cbaa");
        answers(x, 1);
        due(x.standing(0, request), 3);
        due(text(x, 3, 0), "cbaa");
        // the copy is gone, and its version is not opened again
        ToolPlex y = plex("aa");
        y.server(63, 7, 0);
        y.open(0, 0);
        int nobody = y.request(0, HOVER, 0, 0, 0, 0);
        y.close(0, 0);
        y.open(1, 0);
        y.close(1, 0);
        y.deliver(1);
        y.deliver(1);
        y.deliverAll();
        due(y.version(2, 0), -1);
        due(y.standing(0, nobody), 4);
        // opened by the other one ahead of the closing: the copy is replaced
        ToolPlex z = plex("aa aa");
        z.server(63, 7, 0);
        z.open(0, 0);
        z.deliverAll();
        z.tellFaults(0, 0);
        z.deliver(5);
        z.close(0, 0);
        z.open(1, 0);
        z.deliver(1);
        due(z.version(2, 0), 2);
        z.deliver(0);
        due(z.version(2, 0), 2);
        z.deliverAll();
        due(z.version(3, 0), 2);
        due(List.of(z.faults(0, 0), z.faults(1, 0)), List.of(0, 0));
        // and the faults that were kept for it are gone, of the other servers too
        ToolPlex w = plex("aa aa");
        w.server(63, 7, 0);
        w.server(63, 7, 0);
        w.open(0, 0);
        w.deliverAll();
        w.tellFaults(0, 0);
        w.deliver(5);
        w.change(0, 0, 0, 2, 0, 100, -1);
        w.close(0, 0);
        w.open(1, 0);
        w.deliver(1);
        w.deliverAll();
        due(w.tellFaults(1, 0), 0);
        w.deliverAll();
        due(w.faults(1, 0), 0);
    }

    private static void deliverAll() {
        ToolPlex x = plex("ab");
        due(x.deliverAll(), 0);
        x.server(63, 7, 0);
        x.server(63, 7, 0);
        x.open(1, 0);
        due(x.deliverAll(), 3);
        x.request(1, HOVER, 0, 0, 0, 0);
        due(x.deliverAll(), 3);
        x.answer(1, 0);
        x.answer(0, 0);
        due(x.deliverAll(), 3);
        due(x.deliverAll(), 0);
        // the lowest channel first: what editor 0 sent comes ahead of what editor 1 sent
        x.close(1, 0);
        x.open(0, 0);
        due(x.deliverAll(), 4);
        due(x.version(2, 0), 2);
        due(x.version(3, 0), 2);
    }

    private static void waiting() {
        ToolPlex x = plex("ab");
        x.server(63, 7, 0);
        throwsJust(OUT, () -> x.waiting(-1));
        throwsJust(OUT, () -> x.waiting(10));
        due(List.of(x.waiting(0), x.waiting(4), x.waiting(9)), List.of(0, 0, 0));
        x.open(0, 0);
        x.request(0, HOVER, 0, 0, 0, 0);
        due(List.of(x.waiting(0), x.waiting(1), x.waiting(2)), List.of(2, 0, 0));
        x.deliver(0);
        x.deliver(0);
        due(List.of(x.waiting(0), x.waiting(2), x.waiting(3)), List.of(0, 2, 0));
        // a second request of the same kind: the first one is cancelled
        x.request(0, HOVER, 0, 0, 0, 0);
        x.deliver(0);
        due(List.of(x.waiting(2), x.waiting(8)), List.of(4, 1));
        // one of another kind is not touched
        x.request(0, TOKENS, 0, 0, 0, 0);
        x.deliver(0);
        due(List.of(x.waiting(2), x.waiting(8)), List.of(5, 1));
    }

    // ---- copies

    private static void version() {
        ToolPlex x = plex("ab");
        x.server(63, 7, 0);
        for (int w : new int[] {-1, 4, 5, 6, Integer.MAX_VALUE, Integer.MIN_VALUE}) {
            throwsJust(OUT, () -> x.version(w, 0));
        }
        throwsJust(OUT, () -> x.version(0, 1));
        throwsJust(OUT, () -> x.version(2, -1));
        due(List.of(x.version(0, 0), x.version(1, 0), x.version(2, 0), x.version(3, 0)), List.of(-1, -1, -1, -1));
        x.open(1, 0);
        x.change(1, 0, 0, 0, 0, 0, 'a');
        x.deliver(1);
        due(List.of(x.version(0, 0), x.version(1, 0), x.version(2, 0), x.version(3, 0)), List.of(-1, 2, 1, -1));
        x.deliverAll();
        due(List.of(x.version(0, 0), x.version(1, 0), x.version(2, 0), x.version(3, 0)), List.of(-1, 2, 2, 2));
    }

    private static void unit() {
        ToolPlex x = plex("a\uD83D\uDE00");
        x.server(63, 7, 0);
        throwsJust(OUT, () -> x.unit(0, 0, 0));
        x.open(0, 0);
        due(x.unit(0, 0, 0), 'a');
        due(x.unit(0, 0, 1), '\uD83D');
        due(x.unit(0, 0, 2), '\uDE00');
        throwsJust(OUT, () -> x.unit(0, 0, 3));
        throwsJust(OUT, () -> x.unit(0, 0, -1));
        throwsJust(OUT, () -> x.unit(0, 1, 0));
        throwsJust(OUT, () -> x.unit(1, 0, 0));
        throwsJust(OUT, () -> x.unit(2, 0, 0));
        throwsJust(OUT, () -> x.unit(4, 0, 0));
        x.deliverAll();
        due(x.unit(2, 0, 2), '\uDE00');
        due(x.unit(3, 0, 0), 'a');
        x.close(0, 0);
        throwsJust(OUT, () -> x.unit(0, 0, 0));
        x.deliverAll();
        throwsJust(OUT, () -> x.unit(2, 0, 0));
        throwsJust(OUT, () -> x.unit(3, 0, 0));
    }

    private static void agree() {
        ToolPlex x = plex("ab");
        x.server(63, 7, 0);
        throwsJust(OUT, () -> x.agree(-1));
        throwsJust(OUT, () -> x.agree(1));
        due(x.agree(0), true);
        x.open(0, 0);
        x.deliverAll();
        x.change(0, 0, 0, 1, 0, 1, FACE);
        due(x.agree(0), true);
        x.deliver(0);
        x.change(0, 0, 0, 0, 0, 3, -1);
        due(x.agree(0), true);
        x.deliverAll();
        due(x.agree(0), true);
        x.close(0, 0);
        x.open(1, 0);
        due(x.agree(0), true);
    }

    // ---- answers and faults

    private static void standing() {
        ToolPlex x = opened(2, "ab ab");
        throwsJust(OUT, () -> x.standing(0, 0));
        x.request(0, TOKENS, 0, 0, 0, 0);
        throwsJust(OUT, () -> x.standing(0, 1));
        throwsJust(OUT, () -> x.standing(0, -1));
        throwsJust(OUT, () -> x.standing(2, 0));
        throwsJust(OUT, () -> x.standing(-1, 0));
        due(x.standing(0, 0), 0);
        answers(x, 1);
        due(x.standing(0, 0), 21);
        x.change(0, 0, 0, 0, 0, 1, -1);
        due(x.standing(0, 0), 11);
        x.change(0, 0, 0, 0, 0, 100, -1);
        due(x.standing(0, 0), 1);
        due(x.standing(0, ask(x, 1, HOVER, 0, 0)), 1);
        // superseded
        x.request(0, HOVER, 0, 0, 0, 0);
        x.request(0, HOVER, 0, 0, 0, 0);
        x.deliverAll();
        due(List.of(x.standing(0, 2), x.standing(0, 3)), List.of(2, 0));
        x.crash(0);
        x.deliverAll();
        due(x.standing(0, 3), 1);
        due(x.standing(0, ask(x, 1, HOVER, 0, 0)), 4);
    }

    private static void stale() {
        for (int kind = 0; kind < 6; kind++) {
            boolean moved = kind == DEFINITION || kind == TOKENS;
            // changed ahead of the merging
            ToolPlex x = opened(0, "ab abc");
            x.request(0, kind, 0, 0, 1, Z);
            x.deliverAll();
            x.change(0, 0, 0, 0, 0, 0, ' ');
            answers(x, 1);
            due(x.standing(0, 0) == 3, !moved);
            // changed behind the merging, ahead of the taking
            ToolPlex y = opened(0, "ab abc");
            y.request(0, kind, 0, 0, 1, Z);
            y.deliverAll();
            y.answer(0, 0);
            y.deliver(5);
            y.change(0, 0, 0, 0, 0, 0, ' ');
            y.deliver(8);
            due(y.standing(0, 0) == 3, !moved);
            if (moved) {
                due(y.item(0, 0, 0), at(0, 0, 1, 2));
                due(x.item(0, 0, 0), at(0, 0, 1, 2));
            }
            // changed behind the taking
            ToolPlex z = opened(0, "ab abc");
            ask(z, 1, kind, 0, 1);
            due(z.standing(0, 0) % 10, 1);
            z.change(0, 0, 0, 6, 0, 6, ' ');
            due(z.standing(0, 0) == 3, !moved);
            // closed, and opened again
            ToolPlex w = opened(0, "ab abc");
            w.request(0, kind, 0, 0, 1, Z);
            w.deliverAll();
            w.answer(0, 0);
            w.deliver(5);
            w.close(0, 0);
            w.open(0, 0);
            w.deliver(8);
            due(w.standing(0, 0), 3);
            ToolPlex v = opened(0, "ab abc");
            v.request(0, kind, 0, 0, 1, Z);
            v.close(0, 0);
            v.open(0, 0);
            answers(v, 1);
            due(v.standing(0, 0), 3);
            ToolPlex u = opened(0, "ab abc");
            u.request(0, kind, 0, 0, 1, Z);
            u.close(0, 0);
            answers(u, 1);
            due(u.standing(0, 0), 3);
        }
    }

    private static void renameStale() {
        // another document that has items is changed: ahead of the merging, ahead of the taking, behind it
        ToolPlex x = plex("c", "c");
        x.server(63, 7, 0);
        x.open(0, 0);
        x.open(0, 1);
        x.deliverAll();
        x.request(0, RENAME, 0, 0, 0, Z);
        x.deliverAll();
        x.answer(0, 0);
        x.change(0, 1, 0, 0, 0, 0, ' ');
        x.deliverAll();
        due(x.standing(0, 0), 3);
        x.request(0, RENAME, 0, 0, 0, Z);
        x.deliverAll();
        x.answer(0, 0);
        x.deliver(5);
        x.change(0, 1, 0, 0, 0, 0, ' ');
        x.deliverAll();
        due(x.standing(0, 1), 3);
        ask(x, 1, RENAME, 0, 0);
        due(x.standing(0, 2), 21);
        x.change(0, 1, 0, 0, 0, 0, ' ');
        due(x.standing(0, 2), 3);
        ask(x, 1, RENAME, 0, 0);
        x.close(0, 1);
        due(x.standing(0, 3), 3);
        // the other document is open in the other editor
        x.open(1, 1);
        ask(x, 1, RENAME, 0, 0);
        due(x.standing(0, 4), 3);
        // a document without items does not matter
        ToolPlex y = plex("c", "d");
        y.server(63, 7, 0);
        y.open(0, 0);
        y.open(1, 1);
        y.deliverAll();
        y.request(0, RENAME, 0, 0, 0, Z);
        y.deliverAll();
        y.answer(0, 0);
        y.change(1, 1, 0, 0, 0, 0, ' ');
        y.deliverAll();
        due(y.standing(0, 0), 11);
        y.close(1, 1);
        due(y.standing(0, 0), 11);
        // what is left out of a lower server makes room for a higher one
        ToolPlex z = plex("c", "c");
        z.server(63, 7, 0);
        z.server(63, 7, 0);
        z.open(0, 0);
        z.open(0, 1);
        z.deliverAll();
        z.request(0, RENAME, 0, 0, 0, Z);
        z.deliverAll();
        z.answer(0, 0);
        z.change(0, 1, 0, 0, 0, 0, ' ');
        z.deliverAll();
        z.answer(1, 0);
        z.deliverAll();
        due(items(z, 0, 0), List.of(at(0, 0, 0, 1), at(1, 0, 1, 1)));
    }

    private static void item() {
        ToolPlex x = opened(2, "ab 1\nc");
        int tokens = ask(x, 1, TOKENS, 0, 0);
        due(items(x, 0, tokens), List.of(at(0, 0, 0, 2), at(0, 0, 3, 1), at(0, 1, 0, 1)));
        throwsJust(OUT, () -> x.item(0, tokens, 3));
        throwsJust(OUT, () -> x.item(0, tokens, -1));
        throwsJust(OUT, () -> x.item(0, 1, 0));
        throwsJust(OUT, () -> x.item(1, 0, 0));
        throwsJust(OUT, () -> x.item(2, 0, 0));
        // ahead of a span, at its start, within it, at its end, behind it
        x.change(0, 0, 0, 0, 0, 0, '\n');
        due(items(x, 0, tokens), List.of(at(0, 1, 0, 2), at(0, 1, 3, 1), at(0, 2, 0, 1)));
        x.change(0, 0, 1, 3, 1, 3, 'x');
        due(items(x, 0, tokens), List.of(at(0, 1, 0, 2), at(0, 1, 4, 1), at(0, 2, 0, 1)));
        x.change(0, 0, 1, 1, 1, 1, 'x');
        due(items(x, 0, tokens), List.of(at(0, 1, 5, 1), at(0, 2, 0, 1)));
        x.change(0, 0, 1, 6, 2, 0, -1);
        due(items(x, 0, tokens), List.of(at(0, 1, 5, 1), at(0, 1, 6, 1)));
        x.change(0, 0, 1, 4, 1, 6, FACE);
        due(items(x, 0, tokens), List.of(at(0, 1, 6, 1)));
        int hover = ask(x, 1, HOVER, 1, 6);
        due(items(x, 0, hover), List.of(at(0, 1, 6, 1)));
        x.change(0, 0, 0, 0, 0, 0, 'x');
        throwsJust(OUT, () -> x.item(0, hover, 0));
        int later = x.request(0, HOVER, 0, 0, 0, 0);
        throwsJust(OUT, () -> x.item(0, later, 0));
    }

    private static void merged() {
        // completion: runs of all servers in their order, each once; the rest of the lowest server that has some
        ToolPlex x = plex("b2 a1 b2 a");
        x.server(63, 7, 0);
        x.server(63, 7, 1);
        x.server(63, 7, 2);
        x.open(0, 0);
        due(items(x, 0, ask(x, 3, COMPLETION, 0, 3)), List.of(at(0, 0, 4, 1), at(0, 0, 1, 1), at(0, 0, 3, 1),
                at(0, 0, 0, 1)));
        due(items(x, 0, ask(x, 3, HOVER, 0, 4)), List.of(at(0, 0, 3, 1)));
        due(items(x, 0, ask(x, 3, HOVER, 0, 5)), List.of(at(0, 0, 4, 1)));
        due(items(x, 0, ask(x, 3, DEFINITION, 0, 7)), List.of(at(0, 0, 0, 1), at(0, 0, 1, 1)));
        due(items(x, 0, ask(x, 3, TOKENS, 0, 0)), List.of(at(0, 0, 0, 1), at(0, 0, 1, 1), at(0, 0, 3, 1),
                at(0, 0, 4, 1), at(0, 0, 6, 1), at(0, 0, 7, 1), at(0, 0, 9, 1)));
        due(items(x, 0, ask(x, 3, EXTRACT, 0, 0)), List.of(at(0, 0, 0, 10)));
        // a token of a later version that has a unit in common with an older one of a lower server is left out
        ToolPlex y = plex("ab cd");
        y.server(63, 7, 0);
        y.server(63, 7, 0);
        y.open(0, 0);
        y.deliverAll();
        y.request(0, TOKENS, 0, 0, 0, 0);
        y.request(0, DEFINITION, 0, 0, 0, 0);
        y.deliverAll();
        y.answer(0, 0);
        y.answer(0, 0);
        y.change(0, 0, 0, 2, 0, 2, 'x');
        y.deliverAll();
        y.answer(1, 0);
        y.answer(1, 0);
        y.deliverAll();
        due(items(y, 0, 0), List.of(at(0, 0, 0, 2), at(0, 0, 4, 2)));
        due(items(y, 0, 1), List.of(at(0, 0, 0, 2), at(0, 0, 0, 3)));
    }

    private static void value() {
        ToolPlex x = opened(2, "a 1 a b");
        int hover = ask(x, 1, HOVER, 0, 0);
        int tokens = ask(x, 1, TOKENS, 0, 0);
        int definition = ask(x, 1, DEFINITION, 0, 4);
        int rename = ask(x, 1, RENAME, 0, 4);
        int completion = ask(x, 1, COMPLETION, 0, 2);
        int extract = ask(x, 1, EXTRACT, 0, 2);
        due(x.value(0, hover, 0), 2);
        due(List.of(x.value(0, tokens, 0), x.value(0, tokens, 1), x.value(0, tokens, 3)), List.of(0, 1, 0));
        due(List.of(x.value(0, definition, 0), x.value(0, rename, 1), x.value(0, completion, 0),
                x.value(0, extract, 0)), List.of(0, 0, 0, 0));
        throwsJust(OUT, () -> x.value(0, hover, 1));
        throwsJust(OUT, () -> x.value(0, hover, -1));
        throwsJust(OUT, () -> x.value(0, 6, 0));
        throwsJust(OUT, () -> x.value(2, 0, 0));
        x.change(0, 0, 0, 0, 0, 0, ' ');
        throwsJust(OUT, () -> x.value(0, hover, 0));
        due(x.value(0, tokens, 1), 1);
    }

    private static void token() {
        ToolPlex x = opened(2, "\n ab 12\n\nc");
        int tokens = ask(x, 1, TOKENS, 0, 0);
        int hover = ask(x, 1, HOVER, 1, 1);
        due(tokens(x, 0, tokens), List.of(1, 1, 2, 0, 0, 3, 2, 1, 2, 0, 1, 0));
        throwsJust(OUT, () -> x.token(0, tokens, 12));
        throwsJust(OUT, () -> x.token(0, tokens, -1));
        throwsJust(OUT, () -> x.token(0, hover, 0));
        throwsJust(OUT, () -> x.token(0, 2, 0));
        throwsJust(OUT, () -> x.token(2, 0, 0));
        x.change(0, 0, 0, 0, 1, 0, -1);
        due(tokens(x, 0, tokens), List.of(0, 1, 2, 0, 0, 3, 2, 1, 2, 0, 1, 0));
        x.change(0, 0, 0, 3, 0, 4, '\n');
        due(tokens(x, 0, tokens), List.of(0, 1, 2, 0, 1, 0, 2, 1, 2, 0, 1, 0));
        x.change(0, 0, 0, 1, 0, 2, -1);
        due(tokens(x, 0, tokens), List.of(1, 0, 2, 1, 2, 0, 1, 0));
        x.close(0, 0);
        throwsJust(OUT, () -> x.token(0, tokens, 0));
    }

    private static void id() {
        ToolPlex x = plex("ab");
        x.server(63, 7, 0);
        x.server(2, 7, 0);
        x.open(0, 0);
        x.request(0, TOKENS, 0, 0, 0, 0);
        x.request(0, HOVER, 0, 0, 0, 0);
        x.request(0, HOVER, 0, 0, 0, 0);
        throwsJust(OUT, () -> x.id(2, 0, 0));
        throwsJust(OUT, () -> x.id(0, 3, 0));
        throwsJust(OUT, () -> x.id(1, 0, 0));
        throwsJust(OUT, () -> x.id(0, 0, 2));
        throwsJust(OUT, () -> x.id(0, 0, -1));
        due(x.id(0, 0, 0), -1);
        x.deliverAll();
        // the ids are the multiplexer's own: one row for all servers
        due(List.of(x.id(0, 0, 0), x.id(0, 0, 1)), List.of(0, -1));
        due(List.of(x.id(0, 1, 0), x.id(0, 1, 1)), List.of(1, 2));
        due(List.of(x.id(0, 2, 0), x.id(0, 2, 1)), List.of(3, 4));
        answers(x, 2);
        due(x.standing(0, 1), 2);
        due(List.of(x.id(0, 0, 0), x.id(0, 1, 1)), List.of(0, 2));
        x.crash(0);
        due(x.id(0, 2, 0), 3);
        ask(x, 2, TOKENS, 0, 0);
        due(List.of(x.id(0, 3, 0), x.id(0, 3, 1)), List.of(-1, -1));
    }

    private static void faults() {
        ToolPlex x = plex("a a", "b");
        x.server(63, 7, 0);
        x.server(63, 7, 2);
        x.open(0, 0);
        x.open(1, 1);
        x.deliverAll();
        throwsJust(OUT, () -> x.faults(2, 0));
        throwsJust(OUT, () -> x.faults(-1, 0));
        throwsJust(OUT, () -> x.faults(0, 2));
        throwsJust(OUT, () -> x.faults(0, -1));
        due(List.of(x.faults(0, 0), x.faults(1, 0)), List.of(0, 0));
        x.tellFaults(0, 0);
        x.tellFaults(1, 0);
        x.deliverAll();
        due(List.of(x.faults(0, 0), x.faults(1, 0)), List.of(1, 0));
        // what a server tells comes in place of what it told before, of that server alone
        x.change(0, 0, 0, 2, 0, 2, 'a');
        due(x.faults(0, 0), 1);
        x.deliverAll();
        x.tellFaults(0, 0);
        x.deliverAll();
        due(x.faults(0, 0), 1);
        x.tellFaults(1, 0);
        x.deliverAll();
        due(x.faults(0, 0), 0);
        // told for a version ahead of the opening: dropped
        ToolPlex y = opened(0, "a a");
        y.tellFaults(0, 0);
        y.close(0, 0);
        y.open(0, 0);
        y.deliver(0);
        y.deliver(0);
        y.deliver(5);
        due(y.waiting(8), 0);
        y.deliverAll();
        y.tellFaults(0, 0);
        y.deliver(5);
        y.close(0, 0);
        y.deliver(8);
        due(y.faults(0, 0), 0);
        y.open(0, 0);
        due(y.faults(0, 0), 0);
    }

    private static void fault() {
        ToolPlex x = plex("a a\na 1 1");
        x.server(63, 7, 2);
        x.server(63, 7, 0);
        x.open(0, 0);
        x.deliverAll();
        x.tellFaults(0, 0);
        x.tellFaults(1, 0);
        x.deliverAll();
        due(shownFaults(x, 0, 0), List.of(at(0, 0, 2, 1), at(0, 1, 0, 1), at(0, 1, 4, 1)));
        throwsJust(OUT, () -> x.fault(0, 0, 3));
        throwsJust(OUT, () -> x.fault(0, 0, -1));
        throwsJust(OUT, () -> x.fault(1, 0, 0));
        throwsJust(OUT, () -> x.fault(0, 1, 0));
        throwsJust(OUT, () -> x.fault(2, 0, 0));
        // moved along in the editor, in the multiplexer, and from an older version of the server
        x.change(0, 0, 0, 0, 0, 0, '\n');
        due(shownFaults(x, 0, 0), List.of(at(0, 1, 2, 1), at(0, 2, 0, 1), at(0, 2, 4, 1)));
        x.tellFaults(1, 0);
        x.deliver(6);
        x.deliver(8);
        due(shownFaults(x, 0, 0), List.of(at(0, 1, 2, 1), at(0, 2, 0, 1), at(0, 2, 4, 1)));
        x.tellFaults(1, 0);
        x.deliver(0);
        x.deliver(6);
        x.deliver(8);
        due(shownFaults(x, 0, 0), List.of(at(0, 1, 2, 1), at(0, 2, 0, 1), at(0, 2, 4, 1)));
        // both servers tell spans with the same start: by rising ends
        ToolPlex y = plex("b b");
        y.server(63, 7, 0);
        y.server(63, 7, 0);
        y.open(0, 0);
        y.deliverAll();
        y.tellFaults(1, 0);
        y.deliverAll();
        y.change(0, 0, 0, 3, 0, 3, 'b');
        y.change(0, 0, 0, 1, 0, 1, 'b');
        y.deliverAll();
        y.tellFaults(0, 0);
        y.deliverAll();
        due(shownFaults(y, 0, 0), List.of(at(0, 0, 3, 1), at(0, 0, 3, 2)));
    }
}
