import java.util.ArrayList;
import java.util.List;
import java.util.function.Function;

/**
 * The boundaries that the promises name: for each range of an argument and each exception a test of its own, with its
 * words at it. Every refused call must leave all that can be seen as it was.
 */
public final class CallBoundariesTest extends Checks {
    private static final int LEAST = Integer.MIN_VALUE, MOST = Integer.MAX_VALUE;
    /** What is no editor, and what is no letter. */
    private static final int[] NO_EDITOR = {LEAST, -2, -1, 2, 3, 256, 65536, MOST};
    private static final int[] NO_LETTER = {LEAST, LEAST + 'a', -1, 0, 48, 65, 90, 96, 123, 128, 65536 + 'a', MOST};
    private static final int[] NO_POSITION = {LEAST, -1000, -1, 1001, 65536, MOST - 1, MOST};

    private interface Call {
        void with(int argument);
    }

    public static void main(String[] args) {
        runSentences(CallBoundariesTest.class);
        finish("CallBoundariesTest");
    }

    /** For numbers from 0 on: those that do not exist, if there are so many. */
    private static int[] beyond(int count) {
        return new int[] {LEAST, LEAST + 1, -128, -1, count, count + 1, count + 65536, MOST - 1, MOST};
    }

    private static void eachRefused(ToolPlex x, Class<? extends RuntimeException> due, int[] arguments, Call call) {
        for (int argument : arguments) {
            refused(x, due, () -> call.with(argument));
        }
    }

    /** Two files, the first one open in the editor 0; one server with a copy; a hover, SHOWN, and tokens that wait. */
    private static ToolPlex busy() {
        ToolPlex x = plex("ab ab", "c");
        x.server(63, 7, 2);
        x.open(0, 0);
        due(x.standing(0, ask(x, 1, HOVER, 0, 0)), 11);
        x.tellFaults(0, 0);
        x.deliverAll();
        x.request(0, TOKENS, 0, 0, 0, 0);
        x.deliverAll();
        return x;
    }

    // ---- 1 to 5: files and servers

    @Sentence("1: Creates a multiplexer without files and servers.")
    static void promise1() {
        ToolPlex x = new ToolPlex();
        String empty = all(x);
        eachRefused(x, OUT, beyond(0), x::name);
        eachRefused(x, OUT, beyond(0), x::agree);
        eachRefused(x, OUT, beyond(0), f -> x.store(f, 'a'));
        eachRefused(x, OUT, beyond(0), f -> x.open(0, f));
        eachRefused(x, OUT, beyond(0), f -> x.version(0, f));
        eachRefused(x, OUT, beyond(0), f -> x.faults(0, f));
        eachRefused(x, OUT, beyond(0), s -> x.answer(s, 0));
        eachRefused(x, OUT, beyond(0), x::crash);
        eachRefused(x, OUT, beyond(0), x::start);
        eachRefused(x, OUT, beyond(0), r -> x.standing(0, r));
        eachRefused(x, OUT, beyond(0), r -> x.standing(1, r));
        for (int c = 0; c < 10; c++) {
            due(List.of(x.waiting(c), x.deliver(c)), List.of(0, -1));
        }
        due(x.deliverAll(), 0);
        due(all(x), empty);
        // two objects have nothing in common
        ToolPlex y = new ToolPlex();
        y.file('a', 0);
        due(all(x), empty);
        due(x.file('a', 0), 0);
    }

    @Sentence("2: IllegalArgumentException if name or language is out of range; name 97 to 122, language 0 to 2")
    static void promise2Ranges() {
        for (int name = 97; name <= 122; name++) {
            for (int language = 0; language < 3; language++) {
                ToolPlex x = new ToolPlex();
                due(x.file(name, language), 0);
                due(x.name(0), (char) name);
            }
        }
        ToolPlex x = plex("a");
        eachRefused(x, BAD, NO_LETTER, n -> x.file(n, 0));
        eachRefused(x, BAD, beyond(3), l -> x.file('b', l));
        eachRefused(x, BAD, beyond(3), l -> x.file('a', l));
        due(x.file('b', 0), 1);
    }

    @Sentence("2: IllegalStateException if there are 6 files, or one with this name")
    static void promise2Full() {
        ToolPlex x = new ToolPlex();
        for (int f = 0; f < 6; f++) {
            for (int earlier = 0; earlier < f; earlier++) {
                int name = 'z' - earlier;
                refused(x, NOT, () -> x.file(name, 2));
            }
            due(x.file('z' - f, 0), f);
        }
        refused(x, NOT, () -> x.file('a', 0));
        refused(x, NOT, () -> x.file('z', 0));
        // there are 6 files, and the name is none: the argument goes first
        eachRefused(x, BAD, NO_LETTER, n -> x.file(n, 0));
        eachRefused(x, BAD, beyond(3), l -> x.file('a', l));
    }

    @Sentence("3: IndexOutOfBoundsException if there is no such file, IllegalArgumentException if code is none of these,"
            + " IllegalStateException if an editor has the file open, or the text would have more than 100 units")
    static void promise3() {
        ToolPlex x = busy();
        eachRefused(x, OUT, beyond(2), f -> x.store(f, 'a'));
        // no file ahead of no code, no code ahead of an open file and of a full text
        eachRefused(x, OUT, beyond(2), f -> x.store(f, -1));
        refused(x, BAD, () -> x.store(0, -1));
        refused(x, NOT, () -> x.store(0, 'a'));
        due(x.store(1, 'a'), 2);
        x.close(0, 0);
        due(x.store(0, 'a'), 6);
        x.open(1, 0);
        refused(x, NOT, () -> x.store(0, 'a'));
        ToolPlex full = plex("a".repeat(100));
        refused(full, BAD, () -> full.store(0, -1));
        refused(full, BAD, () -> full.store(0, 128592));
        refused(full, NOT, () -> full.store(0, 'a'));
        refused(full, NOT, () -> full.store(0, 128591));
    }

    @Sentence("4: IllegalArgumentException if kinds (1 to 63), languages (1 to 7) or style (0 to 2) is out of range")
    static void promise4Ranges() {
        ToolPlex x = plex("a");
        int[] noKinds = {LEAST, LEAST + 1, -64, -1, 0, 64, 65, 127, MOST};
        int[] noLanguages = {LEAST, LEAST + 1, -8, -1, 0, 8, 9, 15, MOST};
        eachRefused(x, BAD, noKinds, k -> x.server(k, 1, 0));
        eachRefused(x, BAD, noLanguages, l -> x.server(1, l, 0));
        eachRefused(x, BAD, beyond(3), s -> x.server(1, 1, s));
        due(x.server(1, 1, 0), 0);
        due(x.server(63, 7, 2), 1);
        due(x.server(32, 4, 1), 2);
        // there are 3 servers: the argument goes first
        eachRefused(x, BAD, noKinds, k -> x.server(k, 1, 0));
        eachRefused(x, BAD, noLanguages, l -> x.server(1, l, 0));
        eachRefused(x, BAD, beyond(3), s -> x.server(1, 1, s));
        refused(x, NOT, () -> x.server(1, 1, 0));
        // a document is open: the argument goes first, too
        ToolPlex y = plex("a");
        y.open(0, 0);
        refused(y, BAD, () -> y.server(0, 1, 0));
        refused(y, NOT, () -> y.server(1, 1, 0));
    }

    @Sentence("4: IllegalStateException if there are 3 servers, an editor has a file open, or the multiplexer has a copy of"
            + " a document")
    static void promise4States() {
        for (int editor = 0; editor < 2; editor++) {
            for (int file = 0; file < 6; file++) {
                ToolPlex x = plex("", "", "", "", "", "");
                due(x.server(1, 1, 0), 0);
                x.open(editor, file);
                refused(x, NOT, () -> x.server(1, 1, 0));
                x.deliver(editor);
                x.close(editor, file);
                refused(x, NOT, () -> x.server(1, 1, 0));
                x.deliver(editor);
                // what servers have does not matter: CLOSE has not come to the first one
                due(x.version(3, file), -1);
                due(x.server(1, 1, 0), 1);
                x.deliver(2);
                due(x.version(3, file), 1);
                due(x.server(1, 1, 0), 2);
                refused(x, NOT, () -> x.server(1, 1, 0));
            }
        }
    }

    @Sentence("5: IndexOutOfBoundsException if there is no such file")
    static void promise5() {
        ToolPlex x = new ToolPlex();
        for (int f = 0; f < 6; f++) {
            x.file('q' + f, 0);
            due(x.name(f), (char) ('q' + f));
            eachRefused(x, OUT, beyond(f + 1), x::name);
        }
    }

    // ---- 6 to 11: editors

    @Sentence("6: IndexOutOfBoundsException if there is no such editor or file, IllegalStateException if an editor has it"
            + " open")
    static void promise6() {
        ToolPlex x = busy();
        eachRefused(x, OUT, NO_EDITOR, e -> x.open(e, 1));
        eachRefused(x, OUT, NO_EDITOR, e -> x.open(e, 0));
        eachRefused(x, OUT, beyond(2), f -> x.open(0, f));
        eachRefused(x, OUT, beyond(2), f -> x.open(1, f));
        refused(x, NOT, () -> x.open(0, 0));
        refused(x, NOT, () -> x.open(1, 0));
        due(x.open(1, 1), 1);
        refused(x, NOT, () -> x.open(0, 1));
    }

    @Sentence("7: IndexOutOfBoundsException if there is no such editor or file, IllegalStateException if the editor does not"
            + " have it open")
    static void promise7() {
        ToolPlex x = busy();
        eachRefused(x, OUT, NO_EDITOR, e -> x.close(e, 0));
        eachRefused(x, OUT, NO_EDITOR, e -> x.close(e, 1));
        eachRefused(x, OUT, beyond(2), f -> x.close(0, f));
        refused(x, NOT, () -> x.close(1, 0));
        refused(x, NOT, () -> x.close(0, 1));
        x.close(0, 0);
        refused(x, NOT, () -> x.close(0, 0));
    }

    @Sentence("8: IndexOutOfBoundsException if there is no such editor or file")
    static void promise8Indexes() {
        ToolPlex x = busy();
        eachRefused(x, OUT, NO_EDITOR, e -> x.change(e, 0, 0, 0, 0, 0, 'a'));
        eachRefused(x, OUT, beyond(2), f -> x.change(0, f, 0, 0, 0, 0, 'a'));
        // ahead of arguments out of range
        eachRefused(x, OUT, NO_EDITOR, e -> x.change(e, 0, -1, 1001, -1, 1001, 'A'));
        eachRefused(x, OUT, beyond(2), f -> x.change(0, f, 1001, -1, 1001, -1, -2));
    }

    @Sentence("8: IllegalArgumentException if a line, unit or code is out of range; each 0 to 1000; a code point, as told"
            + " above, or -1 for none")
    static void promise8Ranges() {
        ToolPlex x = busy();
        int[] noCodes = {LEAST, -3, -2, 0, 9, 11, 31, 33, 47, 58, 96, 123, 128511, 128592, 65536 + 'a', MOST};
        eachRefused(x, BAD, NO_POSITION, p -> x.change(0, 0, p, 0, 1000, 1000, 'a'));
        eachRefused(x, BAD, NO_POSITION, p -> x.change(0, 0, 0, p, 1000, 1000, 'a'));
        eachRefused(x, BAD, NO_POSITION, p -> x.change(0, 0, 0, 0, p, 1000, 'a'));
        eachRefused(x, BAD, NO_POSITION, p -> x.change(0, 0, 0, 0, 1000, p, 'a'));
        eachRefused(x, BAD, noCodes, c -> x.change(0, 0, 0, 0, 0, 0, c));
        // ahead of a file that is not open in the editor, and of places in the wrong order
        for (int editor = 0; editor < 2; editor++) {
            int by = editor;
            eachRefused(x, BAD, NO_POSITION, p -> x.change(by, 1, p, 0, 0, 0, 'a'));
            eachRefused(x, BAD, NO_POSITION, p -> x.change(by, 1, 0, p, 0, 0, 'a'));
            eachRefused(x, BAD, NO_POSITION, p -> x.change(by, 1, 0, 0, p, 0, 'a'));
            eachRefused(x, BAD, NO_POSITION, p -> x.change(by, 1, 0, 0, 0, p, 'a'));
            eachRefused(x, BAD, noCodes, c -> x.change(by, 1, 0, 0, 0, 0, c));
        }
        refused(x, BAD, () -> x.change(0, 0, 0, 5, 0, 0, -2));
        due(x.change(0, 0, 1000, 1000, 1000, 1000, -1), 2);
        due(x.change(0, 0, 0, 0, 0, 0, -1), 3);
        due(x.change(0, 0, 0, 1000, 1000, 0, 'c'), 4);
        due(text(x, 0, 0), "ab abc");
    }

    @Sentence("8: IllegalStateException if the editor does not have it open, the place that the second position tells is"
            + " ahead of that of the first, or the text would have more than 100 units")
    static void promise8States() {
        ToolPlex x = busy();
        refused(x, NOT, () -> x.change(1, 0, 0, 0, 0, 0, 'a'));
        refused(x, NOT, () -> x.change(0, 1, 0, 0, 0, 0, 'a'));
        refused(x, NOT, () -> x.change(0, 0, 0, 1, 0, 0, 'a'));
        refused(x, NOT, () -> x.change(0, 0, 0, 5, 0, 4, -1));
        refused(x, NOT, () -> x.change(0, 0, 1, 0, 0, 4, -1));
        // the places count, not the positions: both are the end of the text
        due(x.change(0, 0, 1000, 0, 0, 5, -1), 2);
        due(x.change(0, 0, 3, 7, 2, 9, -1), 3);
        due(x.change(0, 0, 0, 1000, 0, 6, -1), 4);
        // within a pair and at its beginning: the same place
        ToolPlex y = opened(0, "\uD83D\uDE00");
        due(y.change(0, 0, 0, 1, 0, 0, -1), 2);
        refused(y, NOT, () -> y.change(0, 0, 0, 2, 0, 1, -1));
        // the length is looked at behind what is taken out
        ToolPlex full = opened(0, "a".repeat(100));
        refused(full, NOT, () -> full.change(0, 0, 0, 100, 0, 100, 'b'));
        refused(full, NOT, () -> full.change(0, 0, 0, 99, 0, 100, FACE));
        due(full.change(0, 0, 0, 98, 0, 100, FACE), 2);
    }

    @Sentence("9: IndexOutOfBoundsException if there is no such editor or file")
    static void promise9Indexes() {
        ToolPlex x = busy();
        eachRefused(x, OUT, NO_EDITOR, e -> x.request(e, 0, 0, 0, 0, 'a'));
        eachRefused(x, OUT, beyond(2), f -> x.request(0, 0, f, 0, 0, 'a'));
        eachRefused(x, OUT, NO_EDITOR, e -> x.request(e, 6, 0, -1, 1001, 0));
        eachRefused(x, OUT, beyond(2), f -> x.request(0, -1, f, 1001, -1, 0));
    }

    @Sentence("9: IllegalArgumentException if kind (0 to 5), line or unit (0 to 1000) is out of range, or letter (97 to"
            + " 122), if it matters, for 4 and 5; for others it does not matter")
    static void promise9Ranges() {
        for (int file = 0; file < 2; file++) {
            int of = file;
            ToolPlex x = busy();
            eachRefused(x, BAD, beyond(6), k -> x.request(0, k, of, 0, 0, 'a'));
            eachRefused(x, BAD, NO_POSITION, p -> x.request(0, 0, of, p, 0, 'a'));
            eachRefused(x, BAD, NO_POSITION, p -> x.request(0, 0, of, 0, p, 'a'));
            eachRefused(x, BAD, NO_LETTER, l -> x.request(0, RENAME, of, 0, 0, l));
            eachRefused(x, BAD, NO_LETTER, l -> x.request(0, EXTRACT, of, 0, 0, l));
        }
        ToolPlex x = busy();
        int number = 2;
        for (int kind = 0; kind < 4; kind++) {
            for (int letter : new int[] {LEAST, 96, 123, MOST}) {
                due(x.request(0, kind, 0, 0, 0, letter), number++);
            }
        }
        for (int kind = 0; kind < 6; kind++) {
            due(x.request(0, kind, 0, 1000, 1000, 97), number++);
            due(x.request(0, kind, 0, 0, 0, 122), number++);
        }
    }

    @Sentence("9: IllegalStateException if the editor does not have it open, or has made 40 requests")
    static void promise9States() {
        ToolPlex x = busy();
        refused(x, NOT, () -> x.request(1, 0, 0, 0, 0, 'a'));
        refused(x, NOT, () -> x.request(0, 0, 1, 0, 0, 'a'));
        x.open(1, 1);
        for (int number = 2; number < 40; number++) {
            due(x.request(0, number % 6, 0, 0, 0, 'a'), number);
            // those that are answered, superseded or cancelled count, too
            if (number % 3 == 0) {
                x.cancel(0, number);
            } else if (number % 5 == 0) {
                answers(x, 1);
            }
        }
        refused(x, NOT, () -> x.request(0, 0, 0, 0, 0, 'a'));
        refused(x, BAD, () -> x.request(0, 6, 0, 0, 0, 'a'));
        refused(x, BAD, () -> x.request(0, 5, 0, 0, 0, 0));
        refused(x, OUT, () -> x.request(0, 0, 2, 0, 0, 'a'));
        answers(x, 1);
        refused(x, NOT, () -> x.request(0, 0, 0, 0, 0, 'a'));
        // the other editor has 40 of its own
        for (int number = 0; number < 40; number++) {
            due(x.request(1, 0, 1, 0, 0, 0), number);
        }
        refused(x, NOT, () -> x.request(1, 0, 1, 0, 0, 0));
        eachRefused(x, OUT, beyond(40), r -> x.standing(0, r));
        eachRefused(x, OUT, beyond(40), r -> x.standing(1, r));
    }

    @Sentence("10: IndexOutOfBoundsException if there is no such editor or request, IllegalStateException if it does not"
            + " wait")
    static void promise10() {
        ToolPlex x = busy();
        eachRefused(x, OUT, NO_EDITOR, e -> x.cancel(e, 1));
        eachRefused(x, OUT, beyond(2), r -> x.cancel(0, r));
        eachRefused(x, OUT, beyond(0), r -> x.cancel(1, r));
        refused(x, NOT, () -> x.cancel(0, 0));
        x.cancel(0, 1);
        x.cancel(0, 1);
        due(List.of(x.waiting(0), x.standing(0, 1)), List.of(2, ToolPlex.WAITING));
        x.deliverAll();
        due(x.standing(0, 1), ToolPlex.CANCELLED);
        refused(x, NOT, () -> x.cancel(0, 1));
        // STALE and NOBODY do not wait either
        x.change(0, 0, 0, 0, 0, 0, -1);
        due(x.standing(0, 0), ToolPlex.STALE);
        refused(x, NOT, () -> x.cancel(0, 0));
        x.deliverAll();
        x.crash(0);
        due(x.standing(0, ask(x, 0, HOVER, 0, 0)), ToolPlex.NOBODY);
        refused(x, NOT, () -> x.cancel(0, 2));
        // it waits though its document is closed
        x.start(0);
        x.request(0, HOVER, 0, 0, 0, 0);
        x.close(0, 0);
        x.cancel(0, 3);
        x.deliverAll();
        due(x.standing(0, 3), ToolPlex.CANCELLED);
    }

    @Sentence("11: IndexOutOfBoundsException if there is no such editor or request")
    static void promise11Indexes() {
        ToolPlex x = busy();
        eachRefused(x, OUT, NO_EDITOR, e -> x.apply(e, 0));
        eachRefused(x, OUT, beyond(2), r -> x.apply(0, r));
        eachRefused(x, OUT, beyond(0), r -> x.apply(1, r));
    }

    @Sentence("11: IllegalStateException if it is no edit, is not SHOWN, or has no items")
    static void promise11States() {
        for (int kind = 0; kind < 4; kind++) {
            ToolPlex x = opened(0, "ab abc");
            due(x.standing(0, ask(x, 1, kind, 0, 1)) % 10, ToolPlex.SHOWN);
            due(x.standing(0, 0) >= 11, true);
            refused(x, NOT, () -> x.apply(0, 0));
        }
        for (int kind = 4; kind < 6; kind++) {
            ToolPlex x = opened(0, "ab\n ");
            x.request(0, kind, 0, 0, 0, Z);
            x.deliverAll();
            refused(x, NOT, () -> x.apply(0, 0));
            x.cancel(0, 0);
            x.deliverAll();
            due(x.standing(0, 0), ToolPlex.CANCELLED);
            refused(x, NOT, () -> x.apply(0, 0));
            ask(x, 1, kind, 0, 0);
            x.change(0, 0, 0, 0, 0, 0, -1);
            due(x.standing(0, 1), ToolPlex.STALE);
            refused(x, NOT, () -> x.apply(0, 1));
            x.change(0, 0, 0, 0, 1000, 0, -1);
            due(x.standing(0, ask(x, 1, kind, 0, 0)), ToolPlex.SHOWN);
            refused(x, NOT, () -> x.apply(0, 2));
            x.crash(0);
            due(x.standing(0, ask(x, 0, kind, 0, 0)), ToolPlex.NOBODY);
            refused(x, NOT, () -> x.apply(0, 3));
        }
    }

    @Sentence("11: for 4, if it renames a file, and another one has the letter as its name")
    static void promise11Rename() {
        ToolPlex x = plex("a 1", "");
        x.server(63, 7, 2);
        x.open(0, 0);
        x.request(0, RENAME, 0, 0, 0, 'b');
        answers(x, 1);
        refused(x, NOT, () -> x.apply(0, 0));
        // the file's own name is no other one's
        x.request(0, RENAME, 0, 0, 0, 'a');
        answers(x, 1);
        due(x.apply(0, 1), 1);
        due(List.of(x.name(0), x.version(0, 0)), List.of('a', 2));
        // it renames no file
        x.request(0, RENAME, 0, 0, 2, 'b');
        answers(x, 1);
        due(x.apply(0, 2), 1);
        due(List.of(x.name(0), x.name(1), text(x, 0, 0)), List.of('a', 'b', "a b"));
        // it renames no file, and its span begins where the text does
        ToolPlex y = plex("q", "");
        y.server(63, 7, 0);
        y.open(0, 0);
        y.request(0, RENAME, 0, 0, 0, 'b');
        answers(y, 1);
        due(items(y, 0, 0), List.of(at(0, 0, 0, 1)));
        due(y.apply(0, 0), 1);
        // it renames a file, and no span begins where the text does
        ToolPlex z = plex(" a", "");
        z.server(63, 7, 0);
        z.open(0, 0);
        z.request(0, RENAME, 0, 0, 1, 'b');
        answers(z, 1);
        due(items(z, 0, 0), List.of(at(0, 127, 127, 127), at(0, 0, 1, 1)));
        refused(z, NOT, () -> z.apply(0, 0));
        // each other file counts, the last one, too
        for (int of = 0; of < 6; of++) {
            ToolPlex six = plex("", "", "", "", "", "");
            six.server(63, 7, 0);
            six.open(0, of);
            six.change(0, of, 0, 0, 0, 0, 'a' + of);
            for (int letter = 'a'; letter < 'g'; letter++) {
                six.request(0, RENAME, of, 0, 0, letter);
                answers(six, 1);
                int request = letter - 'a';
                if (request != of) {
                    refused(six, NOT, () -> six.apply(0, request));
                }
            }
            due(six.apply(0, of), 1);
        }
        // the letter was free when it was asked, and a file has been added since
        x.request(0, RENAME, 0, 0, 0, 'c');
        answers(x, 1);
        due(x.file('c', 0), 2);
        refused(x, NOT, () -> x.apply(0, 3));
    }

    @Sentence("11: for 5, if a file has the letter as its name, or there are 6 files")
    static void promise11Extract() {
        ToolPlex x = plex("1", "", "", "");
        x.server(63, 7, 2);
        x.open(0, 0);
        for (int letter = 'a'; letter < 'e'; letter++) {
            x.request(0, EXTRACT, 0, 0, 0, letter);
            answers(x, 1);
            due(x.standing(0, letter - 'a'), 11);
        }
        for (int r = 0; r < 4; r++) {
            int request = r;
            refused(x, NOT, () -> x.apply(0, request));
        }
        due(x.file('y', 0), 4);
        int free = ask(x, 1, EXTRACT, 0, 0);
        due(x.file('x', 0), 5);
        refused(x, NOT, () -> x.apply(0, free));
        ToolPlex y = plex("1", "", "", "", "");
        y.server(63, 7, 2);
        y.open(0, 0);
        due(y.apply(0, ask(y, 1, EXTRACT, 0, 0)), 1);
        due(y.name(5), 'z');
    }

    // ---- 12 to 18: servers at work

    @Sentence("12: IndexOutOfBoundsException if there is no such server, or it has not so many requests")
    static void promise12() {
        ToolPlex x = busy();
        eachRefused(x, OUT, beyond(1), s -> x.answer(s, 0));
        eachRefused(x, OUT, beyond(1), i -> x.answer(0, i));
        due(x.answer(0, 0), 2);
        eachRefused(x, OUT, beyond(0), i -> x.answer(0, i));
        // requests that wait in the channel, or are lost, are none that it has
        x.request(0, HOVER, 0, 0, 0, 0);
        x.deliver(0);
        refused(x, OUT, () -> x.answer(0, 0));
        x.deliverAll();
        x.crash(0);
        eachRefused(x, OUT, beyond(0), i -> x.answer(0, i));
        eachRefused(x, OUT, beyond(1), s -> x.answer(s, 0));
    }

    @Sentence("13: IndexOutOfBoundsException if there is no such server or file, IllegalStateException if the server has no"
            + " copy of it")
    static void promise13() {
        ToolPlex x = busy();
        eachRefused(x, OUT, beyond(1), s -> x.tellFaults(s, 0));
        eachRefused(x, OUT, beyond(1), s -> x.tellFaults(s, 1));
        eachRefused(x, OUT, beyond(2), f -> x.tellFaults(0, f));
        refused(x, NOT, () -> x.tellFaults(0, 1));
        x.open(1, 1);
        x.deliver(1);
        refused(x, NOT, () -> x.tellFaults(0, 1));
        x.deliver(2);
        due(x.tellFaults(0, 1), 0);
        x.crash(0);
        refused(x, NOT, () -> x.tellFaults(0, 0));
        eachRefused(x, OUT, beyond(2), f -> x.tellFaults(0, f));
        x.start(0);
        refused(x, NOT, () -> x.tellFaults(0, 0));
        x.deliverAll();
        due(x.tellFaults(0, 0), 1);
    }

    @Sentence("14: IndexOutOfBoundsException if there is no such server, IllegalStateException if it is not up")
    static void promise14() {
        ToolPlex x = busy();
        eachRefused(x, OUT, beyond(1), x::crash);
        due(x.crash(0), 0);
        refused(x, NOT, () -> x.crash(0));
        eachRefused(x, OUT, beyond(1), x::crash);
        // how many messages are lost: none, one, many in both channels
        x.start(0);
        due(x.crash(0), 1);
        x.start(0);
        x.deliverAll();
        for (int i = 0; i < 9; i++) {
            x.tellFaults(0, 0);
            x.change(0, 0, 0, 0, 0, 0, 'a');
            x.deliver(0);
        }
        due(x.crash(0), 18);
    }

    @Sentence("15: IndexOutOfBoundsException if there is no such server, IllegalStateException if it is up")
    static void promise15() {
        ToolPlex x = busy();
        eachRefused(x, OUT, beyond(1), x::start);
        refused(x, NOT, () -> x.start(0));
        x.crash(0);
        eachRefused(x, OUT, beyond(1), x::start);
        due(x.start(0), 1);
        refused(x, NOT, () -> x.start(0));
    }

    @Sentence("16: Returns its kind, -1 if there is none; channel 0 to 9")
    static void promise16() {
        ToolPlex x = busy();
        eachRefused(x, OUT, beyond(10), x::deliver);
        String before = all(x);
        for (int c = 0; c < 10; c++) {
            due(x.deliver(c), -1);
        }
        due(all(x), before);
        x.open(1, 1);
        x.request(1, HOVER, 1, 0, 0, 0);
        due(List.of(x.deliver(1), x.deliver(1), x.deliver(1)), List.of(ToolPlex.OPEN, ToolPlex.REQUEST, -1));
        due(List.of(x.deliver(2), x.deliver(2), x.deliver(2)), List.of(ToolPlex.OPEN, ToolPlex.REQUEST, -1));
        x.answer(0, 1);
        x.tellFaults(0, 1);
        due(List.of(x.deliver(5), x.deliver(5), x.deliver(5)), List.of(ToolPlex.ANSWER, ToolPlex.FAULTS, -1));
        due(List.of(x.deliver(9), x.deliver(9), x.deliver(9)), List.of(ToolPlex.ANSWER, ToolPlex.FAULTS, -1));
        x.change(0, 0, 0, 0, 0, 0, -1);
        x.cancel(0, 1);
        x.close(0, 0);
        for (int c : new int[] {0, 2}) {
            due(List.of(x.deliver(c), x.deliver(c), x.deliver(c), x.deliver(c)),
                    List.of(ToolPlex.CHANGE, ToolPlex.CANCEL, ToolPlex.CLOSE, -1));
        }
        // a message that is dropped counts as delivered
        due(x.deliver(8), ToolPlex.ANSWER);
        x.open(0, 0);
        x.close(0, 0);
        x.open(1, 0);
        x.deliver(1);
        due(x.deliver(0), ToolPlex.OPEN);
    }

    @Sentence("17: always the first one of the lowest channel that has one. Returns how many.")
    static void promise17() {
        // the change of the channel 0 comes ahead of the answer of the channel 5
        ToolPlex x = opened(0, "ab");
        x.request(0, HOVER, 0, 0, 0, 0);
        x.deliverAll();
        x.answer(0, 0);
        x.change(0, 0, 0, 0, 0, 0, -1);
        due(x.deliverAll(), 4);
        due(x.standing(0, 0), ToolPlex.STALE);
        due(x.deliverAll(), 0);
        // what the editor 0 sent comes ahead of what the editor 1 sent, though it was sent later
        ToolPlex y = plex("ab");
        y.open(1, 0);
        y.close(1, 0);
        y.open(0, 0);
        due(y.deliverAll(), 3);
        due(List.of(y.version(2, 0), y.agree(0)), List.of(2, true));
        // the server 0 tells faults ahead of the server 1: both come, and each sends all
        ToolPlex z = plex("a a 1 1");
        z.server(63, 7, 0);
        z.server(63, 7, 1);
        z.open(0, 0);
        due(z.deliverAll(), 3);
        z.tellFaults(1, 0);
        z.tellFaults(0, 0);
        due(z.deliverAll(), 4);
        due(z.faults(0, 0), 2);
        // an answer of the channel 5 is merged ahead of one of the channel 6 that was sent earlier
        z.request(0, TOKENS, 0, 0, 0, 0);
        z.deliverAll();
        z.answer(1, 0);
        z.answer(0, 0);
        due(z.deliverAll(), 3);
        due(z.standing(0, 0), 41);
        // many messages at once
        ToolPlex many = plex("");
        for (int i = 0; i < 3; i++) {
            many.server(63, 7, 0);
        }
        many.open(0, 0);
        for (int i = 0; i < 100; i++) {
            many.change(0, 0, 0, 0, 0, 0, 'a');
        }
        due(many.waiting(0), 101);
        due(many.deliverAll(), 404);
        due(many.deliverAll(), 0);
        due(List.of(many.version(5, 0), text(many, 5, 0).length()), List.of(101, 100));
    }

    @Sentence("18: IndexOutOfBoundsException if there is no such channel; channel 0 to 9")
    static void promise18() {
        ToolPlex x = busy();
        eachRefused(x, OUT, beyond(10), x::waiting);
        x.open(1, 1);
        due(List.of(x.waiting(0), x.waiting(1), x.waiting(2), x.waiting(9)), List.of(0, 1, 0, 0));
        x.deliver(1);
        due(List.of(x.waiting(0), x.waiting(1), x.waiting(2), x.waiting(9)), List.of(0, 0, 1, 0));
    }

    // ---- 19 to 21: copies

    @Sentence("19: Returns the version, -1 if there is no copy. IndexOutOfBoundsException if whose tells none of these, or"
            + " there is no such file")
    static void promise19() {
        ToolPlex x = busy();
        eachRefused(x, OUT, new int[] {LEAST, LEAST + 3, -3, -1, 4, 5, 6, 7, MOST}, w -> x.version(w, 0));
        for (int w = -1; w < 7; w++) {
            int whose = w;
            eachRefused(x, OUT, beyond(2), f -> x.version(whose, f));
        }
        due(List.of(x.version(0, 0), x.version(1, 0), x.version(2, 0), x.version(3, 0)), List.of(1, -1, 1, 1));
        due(List.of(x.version(0, 1), x.version(1, 1), x.version(2, 1), x.version(3, 1)), List.of(-1, -1, -1, -1));
    }

    @Sentence("20: IndexOutOfBoundsException if whose tells none of these, or there is no such file, copy or unit")
    static void promise20() {
        ToolPlex x = busy();
        eachRefused(x, OUT, new int[] {LEAST, LEAST + 3, -3, -1, 4, 5, 6, 7, MOST}, w -> x.unit(w, 0, 0));
        for (int whose : new int[] {0, 2, 3}) {
            eachRefused(x, OUT, beyond(2), f -> x.unit(whose, f, 0));
            eachRefused(x, OUT, beyond(5), p -> x.unit(whose, 0, p));
            due(List.of(x.unit(whose, 0, 0), x.unit(whose, 0, 4)), List.of('a', 'b'));
        }
        for (int whose = 0; whose < 4; whose++) {
            int of = whose;
            refused(x, OUT, () -> x.unit(of, 1, 0));
        }
        refused(x, OUT, () -> x.unit(1, 0, 0));
        // a copy that was taken away, and one that became shorter: what was there before is no unit
        x.change(0, 0, 0, 1, 0, 5, -1);
        refused(x, OUT, () -> x.unit(0, 0, 1));
        due(x.unit(2, 0, 4), 'b');
        x.close(0, 0);
        refused(x, OUT, () -> x.unit(0, 0, 0));
        x.deliverAll();
        refused(x, OUT, () -> x.unit(2, 0, 0));
        refused(x, OUT, () -> x.unit(3, 0, 0));
        ToolPlex empty = opened(0, "");
        for (int whose : new int[] {0, 2, 3}) {
            refused(empty, OUT, () -> empty.unit(whose, 0, 0));
        }
        ToolPlex full = opened(0, "a".repeat(99) + "z");
        for (int whose : new int[] {0, 2, 3}) {
            due(full.unit(whose, 0, 99), 'z');
            refused(full, OUT, () -> full.unit(whose, 0, 100));
        }
    }

    @Sentence("21: Returns true if they do, or no editor has it open; a copy with a version that the editor did not have since"
            + " it opened it does not count.")
    static void promise21() {
        ToolPlex x = busy();
        eachRefused(x, OUT, beyond(2), x::agree);
        due(List.of(x.agree(0), x.agree(1)), List.of(true, true));
        // copies with the version of just the opening, with one in between, and with the last one
        x.change(0, 0, 0, 0, 0, 2, FACE);
        x.change(0, 0, 0, 0, 0, 2, 'c');
        for (int i = 0; i < 4; i++) {
            due(x.agree(0), true);
            x.deliver(i % 2 == 0 ? 0 : 2);
        }
        due(List.of(x.version(2, 0), x.version(3, 0), x.agree(0)), List.of(3, 3, true));
        // copies of before the opening, with another text
        x.change(0, 0, 0, 0, 0, 1, -1);
        x.close(0, 0);
        x.store(0, 'd');
        due(x.agree(0), true);
        x.open(1, 0);
        due(List.of(x.version(1, 0), x.version(2, 0), x.version(3, 0), x.agree(0)), List.of(5, 3, 3, true));
        x.deliver(1);
        due(x.agree(0), true);
        x.deliverAll();
        due(List.of(x.version(3, 0), x.agree(0)), List.of(5, true));
        // changes that the editor made before the opening are none of those since
        x.close(1, 0);
        x.open(0, 0);
        x.deliverAll();
        x.change(0, 0, 0, 0, 0, 0, 'e');
        x.deliver(0);
        x.change(0, 0, 0, 0, 0, 1, -1);
        due(List.of(x.version(0, 0), x.version(2, 0), x.version(3, 0), x.agree(0)), List.of(8, 7, 6, true));
    }

    // ---- 22 to 28: answers and faults

    @Sentence("22: Returns 10 * its items, as far as it is SHOWN, + WAITING to NOBODY. IndexOutOfBoundsException if there is"
            + " no such editor or request")
    static void promise22() {
        ToolPlex x = busy();
        eachRefused(x, OUT, NO_EDITOR, e -> x.standing(e, 0));
        eachRefused(x, OUT, beyond(2), r -> x.standing(0, r));
        eachRefused(x, OUT, beyond(0), r -> x.standing(1, r));
        due(List.of(x.standing(0, 0), x.standing(0, 1)), List.of(11, 0));
        answers(x, 1);
        due(x.standing(0, 1), 21);
        x.close(0, 0);
        due(List.of(x.standing(0, 0), x.standing(0, 1)), List.of(3, 3));
    }

    @Sentence("23: IndexOutOfBoundsException if there is no such editor or request, it is not SHOWN, or there is no such"
            + " item")
    static void promise23() {
        ToolPlex x = busy();
        eachRefused(x, OUT, NO_EDITOR, e -> x.item(e, 0, 0));
        eachRefused(x, OUT, beyond(2), r -> x.item(0, r, 0));
        eachRefused(x, OUT, beyond(0), r -> x.item(1, r, 0));
        eachRefused(x, OUT, beyond(1), i -> x.item(0, 0, i));
        refused(x, OUT, () -> x.item(0, 1, 0));
        answers(x, 1);
        eachRefused(x, OUT, beyond(2), i -> x.item(0, 1, i));
        x.change(0, 0, 0, 3, 0, 4, -1);
        eachRefused(x, OUT, beyond(1), i -> x.item(0, 1, i));
        refused(x, OUT, () -> x.item(0, 0, 0));
    }

    @Sentence("23: its file, its line, its unit in the line, and its units ..., as one number: each 128 times what is ahead of"
            + " it, added; for one that renames a file its file, 127, 127 and 127 likewise")
    static void promise23Numbers() {
        ToolPlex x = plex("", "", "", "", "", "");
        x.server(63, 7, 0);
        x.open(1, 5);
        x.change(1, 5, 0, 0, 0, 0, 'f');
        for (int kind : new int[] {HOVER, RENAME}) {
            x.request(1, kind, 5, 0, 0, Z);
        }
        answers(x, 1);
        due(items(x, 1, 0), List.of(5 * 128 * 128 * 128 + 1));
        due(items(x, 1, 1), List.of(5 * 128 * 128 * 128 + 127 * 128 * 128 + 127 * 128 + 127, 5 * 128 * 128 * 128 + 1));
        ToolPlex lines = opened(0, "\n".repeat(99) + "a");
        due(items(lines, 0, ask(lines, 1, HOVER, 99, 0)), List.of(99 * 128 * 128 + 1));
        ToolPlex units = opened(0, " ".repeat(99) + "a");
        due(items(units, 0, ask(units, 1, HOVER, 0, 99)), List.of(99 * 128 + 1));
        ToolPlex whole = opened(0, "a".repeat(100));
        due(items(whole, 0, ask(whole, 1, HOVER, 0, 0)), List.of(100));
    }

    @Sentence("24: Returns the value of an item of 1 or 3, 0 for others. IndexOutOfBoundsException as for item()")
    static void promise24() {
        ToolPlex x = busy();
        eachRefused(x, OUT, NO_EDITOR, e -> x.value(e, 0, 0));
        eachRefused(x, OUT, beyond(2), r -> x.value(0, r, 0));
        eachRefused(x, OUT, beyond(0), r -> x.value(1, r, 0));
        eachRefused(x, OUT, beyond(1), i -> x.value(0, 0, i));
        refused(x, OUT, () -> x.value(0, 1, 0));
        answers(x, 1);
        eachRefused(x, OUT, beyond(2), i -> x.value(0, 1, i));
        ToolPlex y = opened(1, "1 1");
        due(values(y, 0, ask(y, 1, COMPLETION, 0, 0)), List.of(0));
        due(values(y, 0, ask(y, 1, HOVER, 0, 0)), List.of(2));
        due(values(y, 0, ask(y, 1, DEFINITION, 0, 0)), List.of(0));
        due(values(y, 0, ask(y, 1, TOKENS, 0, 0)), List.of(1, 1));
        due(values(y, 0, ask(y, 1, RENAME, 0, 0)), List.of(0, 0));
        due(values(y, 0, ask(y, 1, EXTRACT, 0, 0)), List.of(0));
        y.change(0, 0, 0, 0, 0, 0, ' ');
        due(values(y, 0, 3), List.of(1, 1));
        refused(y, OUT, () -> y.value(0, 1, 0));
    }

    @Sentence("25: IndexOutOfBoundsException if there is no such editor or request, it is not SHOWN or of another kind, or"
            + " there are not so many numbers; four for each token")
    static void promise25() {
        ToolPlex x = busy();
        for (int i = 0; i < 8; i++) {
            int index = i;
            refused(x, OUT, () -> x.token(0, 1, index));
        }
        answers(x, 1);
        eachRefused(x, OUT, NO_EDITOR, e -> x.token(e, 1, 0));
        eachRefused(x, OUT, beyond(2), r -> x.token(0, r, 0));
        eachRefused(x, OUT, beyond(0), r -> x.token(1, r, 0));
        eachRefused(x, OUT, beyond(8), i -> x.token(0, 1, i));
        refused(x, OUT, () -> x.token(0, 1, LEAST / 4));
        refused(x, OUT, () -> x.token(0, 1, MOST / 4));
        refused(x, OUT, () -> x.token(0, 0, 0));
        due(tokens(x, 0, 1), List.of(0, 0, 2, 0, 0, 3, 2, 0));
        x.change(0, 0, 0, 0, 0, 1, -1);
        due(tokens(x, 0, 1), List.of(0, 2, 2, 0));
        eachRefused(x, OUT, beyond(4), i -> x.token(0, 1, i));
        x.change(0, 0, 0, 0, 1000, 0, -1);
        due(x.standing(0, 1), 1);
        eachRefused(x, OUT, beyond(0), i -> x.token(0, 1, i));
        for (int kind : new int[] {COMPLETION, HOVER, DEFINITION, RENAME, EXTRACT}) {
            ToolPlex y = opened(0, "ab abc");
            due(y.standing(0, ask(y, 1, kind, 0, 1)) >= 11, true);
            eachRefused(y, OUT, beyond(0), i -> y.token(0, 0, i));
            refused(y, OUT, () -> y.token(0, 0, 3));
        }
    }

    @Sentence("26: Returns the id, also when it was answered or cancelled since; -1 if it did not send it on to that (yet)."
            + " IndexOutOfBoundsException if there is no such editor, request or server")
    static void promise26() {
        ToolPlex x = busy();
        eachRefused(x, OUT, NO_EDITOR, e -> x.id(e, 0, 0));
        eachRefused(x, OUT, beyond(2), r -> x.id(0, r, 0));
        eachRefused(x, OUT, beyond(0), r -> x.id(1, r, 0));
        eachRefused(x, OUT, beyond(1), s -> x.id(0, 0, s));
        // answered; waiting; not yet sent on; cancelled; superseded; never sent on
        x.request(0, TOKENS, 0, 0, 0, 0);
        due(List.of(x.id(0, 0, 0), x.id(0, 1, 0), x.id(0, 2, 0)), List.of(0, 1, -1));
        x.deliverAll();
        x.cancel(0, 2);
        x.deliverAll();
        due(List.of(x.standing(0, 1), x.standing(0, 2)), List.of(2, 2));
        due(List.of(x.id(0, 0, 0), x.id(0, 1, 0), x.id(0, 2, 0)), List.of(0, 1, 2));
        x.crash(0);
        ask(x, 0, HOVER, 0, 0);
        due(List.of(x.id(0, 2, 0), x.id(0, 3, 0)), List.of(2, -1));
        // cancelled ahead of its being sent on: it was sent on first all the same
        ToolPlex y = opened(0, "a");
        y.request(0, HOVER, 0, 0, 0, 0);
        y.cancel(0, 0);
        y.deliverAll();
        due(List.of(y.standing(0, 0), y.id(0, 0, 0)), List.of(2, 0));
    }

    @Sentence("27: IndexOutOfBoundsException if there is no such editor or file")
    static void promise27() {
        ToolPlex x = busy();
        eachRefused(x, OUT, NO_EDITOR, e -> x.faults(e, 0));
        eachRefused(x, OUT, beyond(2), f -> x.faults(0, f));
        eachRefused(x, OUT, beyond(2), f -> x.faults(1, f));
        due(List.of(x.faults(0, 0), x.faults(0, 1), x.faults(1, 0), x.faults(1, 1)), List.of(1, 0, 0, 0));
    }

    @Sentence("28: IndexOutOfBoundsException if there is no such editor, file or fault")
    static void promise28() {
        ToolPlex x = busy();
        eachRefused(x, OUT, NO_EDITOR, e -> x.fault(e, 0, 0));
        eachRefused(x, OUT, beyond(2), f -> x.fault(0, f, 0));
        eachRefused(x, OUT, beyond(1), i -> x.fault(0, 0, i));
        eachRefused(x, OUT, beyond(0), i -> x.fault(0, 1, i));
        eachRefused(x, OUT, beyond(0), i -> x.fault(1, 0, i));
        due(x.fault(0, 0, 0), at(0, 0, 3, 2));
        x.change(0, 0, 0, 4, 0, 4, ' ');
        eachRefused(x, OUT, beyond(0), i -> x.fault(0, 0, i));
        ToolPlex last = plex("", "", "", "", "", "1\n1");
        last.server(63, 7, 1);
        last.open(1, 5);
        last.deliverAll();
        last.tellFaults(0, 5);
        last.deliverAll();
        due(last.fault(1, 5, 0), at(5, 1, 0, 1));
    }

    // ---- all calls

    @Sentence("If several apply, IndexOutOfBoundsException goes first, then IllegalArgumentException.")
    static void whichGoesFirst() {
        ToolPlex x = busy();
        for (int i = 2; i < 40; i++) {
            x.request(0, TOKENS, 0, 0, 0, 0);
        }
        // out of range and not possible now, with what does not exist
        refused(x, OUT, () -> x.store(2, 0));
        refused(x, OUT, () -> x.change(2, 0, -1, 0, 0, 0, 0));
        refused(x, OUT, () -> x.change(1, 2, 0, -1, 0, 0, 0));
        refused(x, OUT, () -> x.request(2, 6, 1, -1, 0, 0));
        refused(x, OUT, () -> x.request(0, 6, -1, -1, 0, 0));
        // the same without that
        refused(x, BAD, () -> x.store(0, 0));
        refused(x, BAD, () -> x.change(1, 0, -1, 0, 0, 0, 0));
        refused(x, BAD, () -> x.change(0, 0, 0, 5, 0, 0, 0));
        refused(x, BAD, () -> x.request(0, 6, 1, 0, 0, 0));
        refused(x, BAD, () -> x.request(0, 0, 1, 1001, 0, 0));
        refused(x, BAD, () -> x.file('a', 3));
        refused(x, BAD, () -> x.server(64, 1, 0));
        // not possible now, and nothing else
        refused(x, NOT, () -> x.store(0, 'a'));
        refused(x, NOT, () -> x.change(1, 0, 0, 0, 0, 0, 'a'));
        refused(x, NOT, () -> x.change(0, 0, 0, 5, 0, 0, 'a'));
        refused(x, NOT, () -> x.request(0, 0, 0, 0, 0, 0));
        refused(x, NOT, () -> x.file('a', 0));
        refused(x, NOT, () -> x.server(63, 1, 0));
    }

    /** Calls that are refused in any state of the run below: the file 0 keeps its name, and the editor 0 has it open. */
    private static void allRefused(ToolPlex x) {
        throwsJust(BAD, () -> x.file(96, 0));
        throwsJust(BAD, () -> x.file('x', 3));
        throwsJust(NOT, () -> x.file('a', 0));
        throwsJust(OUT, () -> x.store(6, 'a'));
        throwsJust(BAD, () -> x.store(0, -1));
        throwsJust(BAD, () -> x.server(0, 1, 0));
        throwsJust(NOT, () -> x.server(63, 7, 0));
        throwsJust(OUT, () -> x.open(2, 1));
        throwsJust(OUT, () -> x.close(0, 6));
        throwsJust(NOT, () -> x.close(1, 0));
        throwsJust(OUT, () -> x.change(-1, 0, 0, 0, 0, 0, 'a'));
        throwsJust(BAD, () -> x.change(0, 0, 0, 0, 0, 1001, 'a'));
        throwsJust(NOT, () -> x.change(1, 0, 0, 0, 0, 0, 'a'));
        throwsJust(OUT, () -> x.request(0, 0, 6, 0, 0, 'a'));
        throwsJust(BAD, () -> x.request(0, 6, 0, 0, 0, 'a'));
        throwsJust(NOT, () -> x.request(1, 0, 0, 0, 0, 'a'));
        throwsJust(OUT, () -> x.cancel(0, 40));
        throwsJust(OUT, () -> x.apply(1, 40));
        throwsJust(OUT, () -> x.answer(0, 40));
        throwsJust(OUT, () -> x.answer(3, 0));
        throwsJust(OUT, () -> x.tellFaults(0, 6));
        throwsJust(OUT, () -> x.crash(3));
        throwsJust(OUT, () -> x.start(-1));
        throwsJust(OUT, () -> x.deliver(10));
        throwsJust(OUT, () -> x.waiting(-1));
        throwsJust(OUT, () -> x.version(6, 0));
        throwsJust(OUT, () -> x.unit(0, 0, 100));
        throwsJust(OUT, () -> x.agree(-1));
        throwsJust(OUT, () -> x.standing(0, 40));
        throwsJust(OUT, () -> x.item(0, 0, -1));
        throwsJust(OUT, () -> x.value(0, 0, 1000));
        throwsJust(OUT, () -> x.token(0, 0, 4000));
        throwsJust(OUT, () -> x.id(0, 0, 3));
        throwsJust(OUT, () -> x.faults(2, 0));
        throwsJust(OUT, () -> x.fault(0, 0, 100));
    }

    @Sentence("A call that throws an exception changes nothing. (what can't be seen at once: as two objects go on)")
    static void changesNothing() {
        List<Function<ToolPlex, Object>> calls = new ArrayList<>(List.of(x -> x.change(0, 0, 0, 0, 0, 0, 'a'),
                x -> x.request(0, TOKENS, 0, 0, 0, 0), x -> x.request(0, RENAME, 0, 0, 0, 'y'), x -> x.open(1, 1),
                x -> x.deliver(0), x -> x.deliver(1), x -> x.deliver(0), x -> x.deliverAll(), x -> x.answer(0, 1),
                x -> x.tellFaults(1, 0), x -> x.deliver(5), x -> x.crash(1), x -> x.deliverAll(), x -> x.answer(0, 0),
                x -> x.start(1), x -> x.deliverAll(), x -> x.apply(0, 1), x -> x.id(0, 1, 0), x -> x.deliverAll(),
                x -> x.request(0, EXTRACT, 0, 0, 0, 'x'), x -> x.deliverAll(), x -> x.answer(1, 0), x -> x.answer(0, 0),
                x -> x.deliverAll(), x -> x.id(0, 2, 1), x -> x.apply(0, 2), x -> x.deliverAll(), x -> x.open(0, 2)));
        ToolPlex plain = plex("b b\n1", "b");
        ToolPlex disturbed = plex("b b\n1", "b");
        for (ToolPlex x : List.of(plain, disturbed)) {
            x.server(63, 7, 0);
            x.server(63, 7, 2);
            x.open(0, 0);
        }
        for (Function<ToolPlex, Object> call : calls) {
            allRefused(disturbed);
            due(call.apply(disturbed), call.apply(plain));
            due(all(disturbed), all(plain));
        }
    }

    @Sentence("An object is used for at most 512 calls after it has been made")
    static void calls512() {
        ToolPlex x = new ToolPlex();
        int calls = 0;
        for (int f = 0; f < 2; f++) {
            due(x.file(f == 0 ? 'p' : 'q', 0), f);
            for (int i = 0; i < 98; i++) {
                due(x.store(f, i % 2 == 0 ? 'a' : ' '), i + 1);
            }
            calls += 99;
        }
        for (int s = 0; s < 3; s++) {
            due(x.server(63, 7, 0), s);
        }
        due(x.open(0, 0), 1);
        due(x.open(0, 1), 1);
        due(x.deliverAll(), 8);
        calls += 6;
        // each round asks for a renaming of all 98 runs, and makes it
        for (int r = 0; r < 40; r++) {
            due(x.request(0, RENAME, r % 2, 0, 0, 'a' + (r + 1) % 2), r);
            due(x.deliverAll(), r == 0 ? 4 : 4 * 98 + 4);
            for (int s = 0; s < 3; s++) {
                due(x.answer(s, 0), 98);
            }
            due(x.deliverAll(), 4);
            due(x.apply(0, r), 98);
            calls += 7;
        }
        due(x.waiting(0), 98);
        due(x.deliverAll(), 4 * 98);
        calls += 2;
        for (int last = 512 - calls; last > 2; last--) {
            due(x.version(5, last % 2), 1 + 40 * 49);
        }
        due(x.agree(1), true);
        due(x.unit(5, 1, 96), 'a');
    }
}
