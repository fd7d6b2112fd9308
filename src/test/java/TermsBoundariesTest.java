import java.util.ArrayList;
import java.util.List;

/**
 * The boundaries that the Terms of the document name, up to "Servers": for each sentence a test of its own, with its
 * words at it.
 */
public final class TermsBoundariesTest extends Checks {
    private static final int[] INSERTED = {-1, ' ', FACE};

    public static void main(String[] args) {
        runSentences(TermsBoundariesTest.class);
        finish("TermsBoundariesTest");
    }

    // ---- texts, files and positions

    @Sentence("the letters \"a\" to \"z\" (97 to 122), the digits (48 to 57), a blank (32), the end of a line (10), and"
            + " the faces 128512 to 128591")
    static void characters() {
        List<Integer> codes = new ArrayList<>(List.of(Integer.MIN_VALUE, Integer.MIN_VALUE + 'a', -'a', 0xD83D, 0xDE00,
                0xFFFF, 0x10000, 0x10000 + 'a', 0x10000 + '0', 0x10000 + ' ', 0x10000 + '\n', 0x110000,
                Integer.MAX_VALUE));
        for (int code = -3; code <= 300; code++) {
            codes.add(code);
        }
        for (int code = 128500; code <= 128600; code++) {
            codes.add(code);
        }
        for (int code : codes) {
            boolean isOne = code >= 97 && code <= 122 || code >= 48 && code <= 57 || code == 32 || code == 10
                    || code >= 128512 && code <= 128591;
            ToolPlex x = plex("");
            ToolPlex y = plex("");
            y.open(0, 0);
            if (isOne) {
                x.store(0, code);
                x.open(0, 0);
                y.change(0, 0, 0, 0, 0, 0, code);
                String want = new String(Character.toChars(code));
                due(List.of(text(x, 0, 0), text(y, 0, 0)), List.of(want, want));
            } else {
                refused(x, BAD, () -> x.store(0, code));
                if (code != -1) {
                    refused(y, BAD, () -> y.change(0, 0, 0, 0, 0, 0, code));
                }
            }
        }
    }

    @Sentence("the faces ..., each of which has two units, a pair; all others have one")
    static void unitsOfCharacters() {
        for (int code : new int[] {'a', 'z', '0', '9', ' ', '\n', FACE, 128575, 128576, 128591}) {
            int units = code >= FACE ? 2 : 1;
            ToolPlex x = plex("");
            due(x.store(0, code), units);
            due(x.store(0, code), 2 * units);
            x.open(0, 0);
            x.change(0, 0, 0, 0, 0, 0, code);
            due(text(x, 0, 0).length(), 3 * units);
        }
    }

    @Sentence("A text has at most 100 units. (store)")
    static void mostUnitsStored() {
        ToolPlex x = plex("a".repeat(98));
        due(x.store(0, FACE), 100);
        refused(x, NOT, () -> x.store(0, 'a'));
        refused(x, NOT, () -> x.store(0, FACE));
        ToolPlex y = plex("a".repeat(99));
        refused(y, NOT, () -> y.store(0, FACE));
        due(y.store(0, '\n'), 100);
        refused(y, NOT, () -> y.store(0, '\n'));
        ToolPlex z = plex("\uD83D\uDE00".repeat(49));
        due(z.store(0, FACE), 100);
        refused(z, NOT, () -> z.store(0, 'a'));
        z.open(0, 0);
        due(text(z, 0, 0), "\uD83D\uDE00".repeat(50));
    }

    @Sentence("A text has at most 100 units. (change)")
    static void mostUnitsChanged() {
        ToolPlex x = opened(0, "a".repeat(98));
        due(x.change(0, 0, 0, 98, 0, 98, FACE), 2);
        refused(x, NOT, () -> x.change(0, 0, 0, 0, 0, 0, 'b'));
        refused(x, NOT, () -> x.change(0, 0, 0, 0, 0, 1, FACE));
        refused(x, NOT, () -> x.change(0, 0, 0, 0, 0, 0, FACE));
        due(x.change(0, 0, 0, 0, 0, 0, -1), 3);
        due(x.change(0, 0, 0, 0, 0, 1, 'b'), 4);
        due(x.change(0, 0, 0, 0, 0, 2, FACE), 5);
        due(text(x, 0, 0), "\uD83D\uDE00" + "a".repeat(96) + "\uD83D\uDE00");
        due(x.change(0, 0, 0, 0, 1000, 1000, -1), 6);
        due(text(x, 0, 0), "");
        x.deliverAll();
        due(List.of(text(x, 2, 0), x.version(3, 0)), List.of("", 6));
        ToolPlex y = opened(0, "a".repeat(99));
        refused(y, NOT, () -> y.change(0, 0, 0, 0, 0, 0, FACE));
        due(y.change(0, 0, 0, 0, 0, 1, FACE), 2);
        refused(y, NOT, () -> y.change(0, 0, 0, 0, 0, 0, 'b'));
    }

    /** The place that a position tells: all from there on is taken out. */
    private static int place(String text, int line, int unit) {
        ToolPlex x = plex(text);
        x.open(0, 0);
        x.change(0, 0, line, unit, 1000, 1000, -1);
        due(text.startsWith(text(x, 0, 0)), true);
        return text(x, 0, 0).length();
    }

    @Sentence("It is the place that many units behind the beginning of the line")
    static void positionInLine() {
        due(List.of(place("abc", 0, 0), place("abc", 0, 1), place("abc", 0, 2)), List.of(0, 1, 2));
        due(List.of(place("a\nbcd\ne", 1, 0), place("a\nbcd\ne", 1, 2), place("a\nbcd\ne", 2, 0)), List.of(2, 4, 6));
        due(List.of(place("\n\n\n", 0, 0), place("\n\n\n", 1, 0), place("\n\n\n", 3, 0)), List.of(0, 1, 3));
        due(place("a".repeat(100), 0, 99), 99);
        due(place("\n".repeat(100), 100, 0), 100);
        due(place("\n".repeat(100), 99, 0), 99);
    }

    @Sentence("the end of the line, if the line has fewer")
    static void positionBehindLine() {
        due(List.of(place("ab\ncd\n", 0, 2), place("ab\ncd\n", 0, 3), place("ab\ncd\n", 0, 1000)), List.of(2, 2, 2));
        due(List.of(place("ab\ncd\n", 1, 3), place("ab\ncd\n", 1, 1000)), List.of(5, 5));
        due(List.of(place("ab\ncd", 1, 2), place("ab\ncd", 1, 3)), List.of(5, 5));
        due(List.of(place("\n\na", 0, 1), place("\n\na", 1, 1)), List.of(0, 1));
        due(List.of(place("", 0, 0), place("", 0, 1), place("", 0, 1000)), List.of(0, 0, 0));
        due(place("a".repeat(100), 0, 101), 100);
    }

    @Sentence("the end of the text, if there are not so many lines")
    static void positionBehindText() {
        due(List.of(place("", 1, 0), place("", 1000, 0)), List.of(0, 0));
        due(List.of(place("ab", 1, 0), place("ab", 1, 1), place("ab", 1000, 1000)), List.of(2, 2, 2));
        due(List.of(place("ab\n", 1, 0), place("ab\n", 2, 0), place("ab\ncd", 2, 0)), List.of(3, 3, 5));
        due(List.of(place("\n".repeat(100), 101, 0), place("\n".repeat(50) + "abc", 51, 1)), List.of(100, 53));
    }

    @Sentence("if it would be within a pair, the beginning of that")
    static void positionInPair() {
        String text = "\uD83D\uDE00\uD83D\uDE4Fa\n\uD83D\uDE00";
        int[] places = {0, 0, 2, 2, 4, 5, 5};
        for (int unit = 0; unit < places.length; unit++) {
            due(place(text, 0, unit), places[unit]);
        }
        due(List.of(place(text, 1, 0), place(text, 1, 1), place(text, 1, 2), place(text, 1, 3)), List.of(6, 6, 8, 8));
        due(List.of(place("\uD83D\uDE00".repeat(50), 0, 99), place("\uD83D\uDE00".repeat(50), 0, 100)), List.of(98, 100));
        // both positions within the same pair: nothing is replaced; the second one within it, the first one ahead
        ToolPlex x = plex("a\uD83D\uDE00b");
        x.open(0, 0);
        x.change(0, 0, 0, 2, 0, 2, '1');
        due(text(x, 0, 0), "a1\uD83D\uDE00b");
        x.change(0, 0, 0, 1, 0, 3, -1);
        due(text(x, 0, 0), "a\uD83D\uDE00b");
        x.change(0, 0, 0, 2, 0, 3, '2');
        due(text(x, 0, 0), "a2b");
    }

    @Sentence("(The end of a line is ahead of its code 10, that of the last line the end of the text.)")
    static void endOfLine() {
        ToolPlex x = plex("ab\n\ncd");
        x.open(0, 0);
        x.change(0, 0, 0, 1000, 0, 1000, 'x');
        due(text(x, 0, 0), "abx\n\ncd");
        x.change(0, 0, 1, 1000, 1, 1000, 'y');
        due(text(x, 0, 0), "abx\ny\ncd");
        x.change(0, 0, 2, 1000, 2, 1000, 'z');
        due(text(x, 0, 0), "abx\ny\ncdz");
        x.change(0, 0, 0, 1000, 1, 0, -1);
        due(text(x, 0, 0), "abxy\ncdz");
        x.change(0, 0, 0, 1000, 1, 0, '\n');
        due(text(x, 0, 0), "abxy\ncdz");
    }

    @Sentence("Files are numbered from 0, at most 6.")
    static void mostFiles() {
        ToolPlex x = new ToolPlex();
        for (int i = 0; i < 6; i++) {
            due(x.file('a' + i, 0), i);
        }
        refused(x, NOT, () -> x.file('g', 0));
        refused(x, NOT, () -> x.file('a', 0));
        due(x.name(5), 'f');
        refused(x, OUT, () -> x.name(6));
    }

    @Sentence("A file has a name, a letter, no two the same")
    static void namesOfFiles() {
        ToolPlex x = new ToolPlex();
        due(x.file('a', 0), 0);
        due(x.file('z', 0), 1);
        for (int language = 0; language < 3; language++) {
            int other = language;
            refused(x, NOT, () -> x.file('a', other));
            refused(x, NOT, () -> x.file('z', other));
        }
        due(x.file('b', 0), 2);
        // a file that was renamed has its new name alone
        ToolPlex y = opened(0, "a");
        y.apply(0, ask(y, 1, RENAME, 0, 0));
        refused(y, NOT, () -> y.file('z', 0));
        due(y.file('a', 0), 1);
        due(List.of(y.name(0), y.name(1)), List.of('z', 'a'));
    }

    @Sentence("a language, 0 to 2; a text that is stored; and a version, 0 at first")
    static void newFiles() {
        for (int language = 0; language < 3; language++) {
            for (int of = 0; of < 3; of++) {
                ToolPlex x = new ToolPlex();
                x.file('a', language);
                x.server(1, 1 << of, 0);
                due(x.open(0, 0), 1);
                due(text(x, 0, 0), "");
                x.deliver(0);
                due(x.waiting(2), language == of ? 1 : 0);
            }
        }
    }

    @Sentence("A run is a row of letters, or of digits, as long as it can be.")
    static void runs() {
        ToolPlex x = opened(2, "a".repeat(100));
        due(items(x, 0, ask(x, 1, TOKENS, 0, 0)), List.of(at(0, 0, 0, 100)));
        ToolPlex y = opened(2, "az09z\n9 0\uD83D\uDE00b");
        due(items(y, 0, ask(y, 1, TOKENS, 0, 0)), List.of(at(0, 0, 0, 2), at(0, 0, 2, 2), at(0, 0, 4, 1), at(0, 1, 0, 1),
                at(0, 1, 2, 1), at(0, 1, 5, 1)));
        ToolPlex none = opened(2, " \n\uD83D\uDE4F ");
        due(none.standing(0, ask(none, 1, TOKENS, 0, 0)), 1);
    }

    // ---- editors

    @Sentence("An editor opens a file that no editor has open: its version becomes 1 more, and the editor has its text")
    static void opening() {
        ToolPlex x = plex("", "b");
        due(x.open(0, 0), 1);
        refused(x, NOT, () -> x.open(0, 0));
        refused(x, NOT, () -> x.open(1, 0));
        due(x.open(1, 1), 1);
        refused(x, NOT, () -> x.open(0, 1));
        due(List.of(text(x, 0, 0), text(x, 1, 1)), List.of("", "b"));
        x.close(0, 0);
        due(x.open(0, 0), 2);
        x.close(0, 0);
        due(x.open(1, 0), 3);
        due(List.of(x.version(0, 0), x.version(1, 0)), List.of(-1, 3));
    }

    @Sentence("To change it is to replace the units from a place up to another one by a character, or by none; its"
            + " version becomes 1 more.")
    static void changing() {
        String text = "ab\ncd";
        for (int a = 0; a <= 5; a++) {
            for (int b = 0; b <= 5; b++) {
                for (int code : new int[] {-1, 'x', FACE}) {
                    ToolPlex x = opened(0, text);
                    int[] at = {a < 3 ? 0 : 1, a < 3 ? a : a - 3, b < 3 ? 0 : 1, b < 3 ? b : b - 3};
                    if (b < a) {
                        refused(x, NOT, () -> x.change(0, 0, at[0], at[1], at[2], at[3], code));
                    } else {
                        due(x.change(0, 0, at[0], at[1], at[2], at[3], code), 2);
                        String by = code == -1 ? "" : new String(Character.toChars(code));
                        String want = text.substring(0, a) + by + text.substring(b);
                        x.deliverAll();
                        due(List.of(text(x, 0, 0), text(x, 2, 0), text(x, 3, 0)), List.of(want, want, want));
                        due(List.of(x.version(0, 0), x.version(2, 0), x.version(3, 0)), List.of(2, 2, 2));
                    }
                }
            }
        }
    }

    @Sentence("When it is closed, the text is stored.")
    static void closing() {
        ToolPlex x = opened(0, "a");
        x.change(0, 0, 0, 0, 0, 1, -1);
        x.close(0, 0);
        due(x.store(0, 'b'), 1);
        x.open(1, 0);
        due(text(x, 1, 0), "b");
        for (int i = 0; i < 99; i++) {
            x.change(1, 0, 0, 0, 0, 0, 'c');
        }
        x.close(1, 0);
        refused(x, NOT, () -> x.store(0, 'd'));
        due(x.open(0, 0), 103);
        due(text(x, 0, 0), "c".repeat(99) + "b");
    }

    // ---- what is moved along

    /** What becomes of a span from a start up to an end, of the file 0 in its line 0. */
    private static List<Integer> moved(int start, int end, int a, int b, int code) {
        int by = (code == -1 ? 0 : code >= FACE ? 2 : 1) - (b - a);
        if (b <= start) {
            return List.of(at(0, 0, start + by, end - start));
        }
        return a >= end ? List.of(at(0, 0, start, end - start)) : List.of();
    }

    private static List<Integer> movedTokens(int a, int b, int code) {
        List<Integer> all = new ArrayList<>(moved(0, 2, a, b, code));
        all.addAll(moved(3, 5, a, b, code));
        return all;
    }

    private interface Change {
        void by(int a, int b, int code);
    }

    private static void forAllChanges(int units, Change test) {
        for (int a = 0; a <= units; a++) {
            for (int b = a; b <= units; b++) {
                for (int code : INSERTED) {
                    test.by(a, b, code);
                }
            }
        }
    }

    private static final String MOVED = "ab ab  ";
    private static final String TO_MOVE = "if b is at most its start, it moves by n less (b less a); otherwise, if a is"
            + " at least its end, it stays; otherwise it is lost";

    @Sentence(TO_MOVE + " (tokens and a definition that an editor shows)")
    static void movedWhenShown() {
        forAllChanges(7, (a, b, code) -> {
            ToolPlex x = opened(0, MOVED);
            int tokens = ask(x, 1, TOKENS, 0, 0);
            int definition = ask(x, 1, DEFINITION, 0, 3);
            x.change(0, 0, 0, a, 0, b, code);
            due(items(x, 0, tokens), movedTokens(a, b, code));
            due(items(x, 0, definition), moved(0, 2, a, b, code));
        });
    }

    @Sentence(TO_MOVE + " (tokens and a definition that an editor takes)")
    static void movedWhenTaken() {
        forAllChanges(7, (a, b, code) -> {
            ToolPlex x = opened(0, MOVED);
            int tokens = x.request(0, TOKENS, 0, 0, 0, 0);
            int definition = x.request(0, DEFINITION, 0, 0, 3, 0);
            x.deliverAll();
            x.answer(0, 0);
            x.answer(0, 0);
            x.deliver(5);
            x.deliver(5);
            x.change(0, 0, 0, a, 0, b, code);
            x.deliver(8);
            x.deliver(8);
            due(items(x, 0, tokens), movedTokens(a, b, code));
            due(items(x, 0, definition), moved(0, 2, a, b, code));
        });
    }

    @Sentence(TO_MOVE + " (tokens and a definition that the multiplexer merges)")
    static void movedWhenMerged() {
        forAllChanges(7, (a, b, code) -> {
            ToolPlex x = opened(0, MOVED);
            int tokens = x.request(0, TOKENS, 0, 0, 0, 0);
            int definition = x.request(0, DEFINITION, 0, 0, 3, 0);
            x.deliverAll();
            x.answer(0, 0);
            x.answer(0, 0);
            x.change(0, 0, 0, a, 0, b, code);
            x.deliverAll();
            due(items(x, 0, tokens), movedTokens(a, b, code));
            due(items(x, 0, definition), moved(0, 2, a, b, code));
        });
    }

    @Sentence(TO_MOVE + " (faults: shown, taken, kept by the multiplexer, told to it late)")
    static void movedFaults() {
        forAllChanges(7, (a, b, code) -> {
            for (int when = 0; when < 4; when++) {
                ToolPlex x = plex(MOVED);
                x.server(63, 7, 0);
                x.server(63, 7, 1);
                x.open(0, 0);
                x.deliverAll();
                due(x.tellFaults(0, 0), 1);
                if (when == 0) {
                    x.deliverAll();
                } else if (when < 3) {
                    x.deliver(5);
                }
                x.change(0, 0, 0, a, 0, b, code);
                if (when == 1) {
                    x.deliver(8);
                } else if (when == 2) {
                    // what the other server tells makes the multiplexer send again what it has kept of this one
                    x.deliverAll();
                    x.tellFaults(1, 0);
                }
                if (when >= 2) {
                    x.deliverAll();
                }
                due(shownFaults(x, 0, 0), moved(3, 5, a, b, code));
            }
        });
    }

    @Sentence("To move a place along likewise: if b is at most the place, by n less (b less a), and otherwise it becomes"
            + " a, if a is less than it.")
    static void movedPlace() {
        String text = "a1b2c3";
        forAllChanges(6, (a, b, code) -> {
            String by = code == -1 ? "" : new String(Character.toChars(code));
            String then = text.substring(0, a) + by + text.substring(b);
            for (int place = 0; place <= 6; place++) {
                int moved = b <= place ? place + by.length() - (b - a) : Math.min(place, a);
                ToolPlex x = opened(2, text);
                int request = x.request(0, DEFINITION, 0, 0, place, 0);
                x.deliverAll();
                x.change(0, 0, 0, a, 0, b, code);
                x.deliverAll();
                List<Integer> want = runAt(then, moved);
                due(x.answer(0, 0), want.size());
                x.deliverAll();
                due(items(x, 0, request), want);
            }
        });
    }

    /** The first run at a place, as an item, in a text without runs alike. */
    private static List<Integer> runAt(String text, int place) {
        java.util.regex.Matcher run = java.util.regex.Pattern.compile("[a-z]+|[0-9]+").matcher(text);
        while (run.find()) {
            if (run.start() <= place && place <= run.end()) {
                return List.of(at(0, 0, run.start(), run.end() - run.start()));
            }
        }
        return List.of();
    }

    // ---- servers

    @Sentence("Servers are numbered from 0, at most 3.")
    static void mostServers() {
        ToolPlex x = plex("a");
        for (int i = 0; i < 3; i++) {
            int none = i;
            refused(x, OUT, () -> x.version(3 + none, 0));
            due(x.server(1, 1, 0), i);
            due(x.version(3 + i, 0), -1);
        }
        refused(x, NOT, () -> x.server(1, 1, 0));
        refused(x, NOT, () -> x.server(63, 7, 2));
        refused(x, OUT, () -> x.version(6, 0));
        x.open(0, 0);
        due(x.deliverAll(), 4);
    }

    @Sentence("A server deals with some kinds of requests and some languages")
    static void kindsAndLanguages() {
        for (int kind = 0; kind < 6; kind++) {
            for (int kinds : new int[] {1 << kind, 63, 63 - (1 << kind)}) {
                for (int language = 0; language < 3; language++) {
                    for (int languages : new int[] {1 << language, 7, 7 - (1 << language)}) {
                        ToolPlex x = new ToolPlex();
                        x.file('a', language);
                        x.server(kinds, languages, 0);
                        x.open(0, 0);
                        x.request(0, kind, 0, 0, 0, Z);
                        x.deliverAll();
                        boolean speaks = languages != 7 - (1 << language);
                        boolean does = speaks && kinds != 63 - (1 << kind);
                        due(x.version(3, 0), speaks ? 1 : -1);
                        due(x.standing(0, 0), does ? ToolPlex.WAITING : ToolPlex.NOBODY);
                        due(x.id(0, 0, 0), does ? 0 : -1);
                    }
                }
            }
        }
    }

    @Sentence("with the style 0 its runs are words, with 1 numbers, with 2 both")
    static void styles() {
        List<Integer> words = List.of(at(0, 0, 0, 2), at(0, 0, 5, 1));
        List<Integer> numbers = List.of(at(0, 0, 2, 2), at(0, 0, 6, 1));
        List<Integer> both = List.of(at(0, 0, 0, 2), at(0, 0, 2, 2), at(0, 0, 5, 1), at(0, 0, 6, 1));
        List<List<Integer>> want = List.of(words, numbers, both);
        for (int style = 0; style < 3; style++) {
            ToolPlex x = opened(style, "az09 b5");
            int tokens = ask(x, 1, TOKENS, 0, 0);
            due(items(x, 0, tokens), want.get(style));
            due(values(x, 0, tokens), List.of(List.of(0, 0), List.of(1, 1), List.of(0, 1, 0, 1)).get(style));
        }
    }

    @Sentence("It is up at first.")
    static void upAtFirst() {
        ToolPlex x = plex("a");
        x.server(1, 1, 0);
        refused(x, NOT, () -> x.start(0));
        due(x.crash(0), 0);
        refused(x, NOT, () -> x.crash(0));
        due(x.start(0), 0);
        refused(x, NOT, () -> x.start(0));
    }

    @Sentence("requests that it has not answered, in the order in which they came")
    static void orderOfRequests() {
        ToolPlex x = opened(2, "a a b");
        x.request(0, HOVER, 0, 0, 5, 0);
        x.request(0, TOKENS, 0, 0, 0, 0);
        x.request(0, DEFINITION, 0, 0, 4, 0);
        x.request(0, COMPLETION, 0, 0, 3, 0);
        x.deliverAll();
        refused(x, OUT, () -> x.answer(0, 4));
        due(x.answer(0, 3), 0);
        refused(x, OUT, () -> x.answer(0, 3));
        due(x.answer(0, 1), 3);
        due(x.answer(0, 0), 1);
        due(x.answer(0, 0), 1);
        refused(x, OUT, () -> x.answer(0, 0));
        x.deliverAll();
        due(List.of(x.standing(0, 0), x.standing(0, 1), x.standing(0, 2), x.standing(0, 3)), List.of(11, 31, 11, 1));
    }

    @Sentence("REQUEST, whose position tells a place in its copy as it is then")
    static void placeInCopy() {
        // the place is told when the request comes, not when it is answered: the change that follows moves it along
        ToolPlex x = opened(0, "ab cd");
        int request = x.request(0, DEFINITION, 0, 0, 3, 0);
        x.change(0, 0, 0, 0, 0, 0, '\n');
        x.deliverAll();
        due(x.answer(0, 0), 1);
        x.deliverAll();
        due(items(x, 0, request), List.of(at(0, 1, 3, 2)));
        // a position behind the end, and one within a pair
        ToolPlex y = opened(0, "ab\n\uD83D\uDE00");
        due(items(y, 0, ask(y, 1, DEFINITION, 0, 1000)), List.of(at(0, 0, 0, 2)));
        due(items(y, 0, ask(y, 1, EXTRACT, 1000, 1000)), List.of(at(0, 1, 0, 2)));
        due(items(y, 0, ask(y, 1, EXTRACT, 1, 1)), List.of(at(0, 1, 0, 2)));
        due(y.standing(0, ask(y, 1, DEFINITION, 1, 0)), 1);
    }

    @Sentence("CANCEL, by which the request with that id is gone, if it is there")
    static void cancelAtServer() {
        ToolPlex x = opened(0, "ab");
        int hover = x.request(0, HOVER, 0, 0, 0, 0);
        int tokens = x.request(0, TOKENS, 0, 0, 0, 0);
        x.deliverAll();
        // it is not there any more: it was answered, but the answer has not come
        x.answer(0, 0);
        x.cancel(0, hover);
        x.deliver(0);
        due(x.waiting(2), 1);
        due(x.deliver(2), 4);
        due(x.answer(0, 0), 1);
        x.deliverAll();
        due(List.of(x.standing(0, hover), x.standing(0, tokens)), List.of(2, 11));
        // it is there, and the others stay
        x.request(0, HOVER, 0, 0, 0, 0);
        x.request(0, TOKENS, 0, 0, 0, 0);
        x.request(0, DEFINITION, 0, 0, 0, 0);
        x.cancel(0, 3);
        x.deliverAll();
        refused(x, OUT, () -> x.answer(0, 2));
        x.answer(0, 0);
        x.answer(0, 0);
        x.deliverAll();
        due(List.of(x.standing(0, 2), x.standing(0, 3), x.standing(0, 4)), List.of(11, 2, 11));
    }

    @Sentence("items, each with a span in the document; it has none if it has no such copy")
    static void answerWithoutCopy() {
        for (int kind = 0; kind < 6; kind++) {
            ToolPlex x = opened(2, "ab ab");
            x.open(1, x.file('q', 0));
            x.request(0, kind, 0, 0, 0, Z);
            x.close(0, 0);
            x.deliverAll();
            due(List.of(x.version(3, 0), x.version(3, 1)), List.of(-1, 1));
            due(x.answer(0, 0), 0);
            x.deliverAll();
            due(x.standing(0, 0), ToolPlex.STALE);
        }
    }

    @Sentence("The run at a place is the first run of its style that begins at the place or ahead of it, and ends there"
            + " or behind it.")
    static void runAtPlace() {
        String text = " ab12 c";
        int[][] starts = {{-1, 1, 1, 1, -1, -1, 6, 6}, {-1, -1, -1, 3, 3, 3, -1, -1}, {-1, 1, 1, 1, 3, 3, 6, 6}};
        for (int style = 0; style < 3; style++) {
            for (int place = 0; place <= 7; place++) {
                ToolPlex x = opened(style, text);
                int start = starts[style][place];
                List<Integer> want = start < 0 ? List.of() : List.of(at(0, 0, start, start == 6 ? 1 : 2));
                for (int kind : new int[] {HOVER, DEFINITION, RENAME}) {
                    due(items(x, 0, ask(x, 1, kind, 0, place)), want);
                }
            }
        }
        ToolPlex empty = opened(2, "");
        for (int kind : new int[] {HOVER, DEFINITION, RENAME}) {
            due(empty.standing(0, ask(empty, 1, kind, 0, 0)), 1);
        }
    }

    // ---- kinds of requests

    private static List<Integer> completed(int style, String text, int place) {
        ToolPlex x = opened(style, text);
        return items(x, 0, ask(x, 1, COMPLETION, 0, place));
    }

    @Sentence("the part of the run at the place that lies ahead of the place is the beginning, empty if there is no"
            + " such run")
    static void beginning() {
        List<Integer> all = List.of(at(0, 0, 4, 2), at(0, 0, 0, 3));
        due(completed(0, "abc ab", 0), all);
        due(completed(0, "abc ab", 1), all);
        due(completed(0, "abc ab", 2), List.of(at(0, 0, 0, 3)));
        due(completed(0, "abc ab", 3), List.of());
        due(completed(0, "abc ab", 4), all);
        due(completed(0, "1 abc ab", 0), List.of(at(0, 0, 6, 2), at(0, 0, 2, 3)));
        due(completed(0, "  abc ab", 1), List.of(at(0, 0, 6, 2), at(0, 0, 2, 3)));
        due(completed(2, "", 0), List.of());
        due(completed(2, " ", 1), List.of());
    }

    @Sentence("the items are all runs of its style in the document that begin so and are longer")
    static void longerRuns() {
        due(completed(2, "ab a abc b ba 1", 2), List.of(at(0, 0, 5, 3)));
        due(completed(2, "ab a abc b ba 1", 4), List.of(at(0, 0, 0, 2), at(0, 0, 5, 3)));
        due(completed(2, "a aa", 1), List.of(at(0, 0, 2, 2)));
        due(completed(2, "a a1", 1), List.of());
        due(completed(2, "a".repeat(100), 99), List.of(at(0, 0, 0, 100)));
        due(completed(2, "a".repeat(100), 100), List.of());
        // 50 runs, none alike
        StringBuilder text = new StringBuilder();
        List<Integer> want = new ArrayList<>();
        for (int i = 0; i < 10; i++) {
            text.append((char) ('0' + i));
            text.append((char) ('a' + i));
            want.add(i, at(0, 0, 2 * i, 1));
            want.add(at(0, 0, 2 * i + 1, 1));
        }
        due(completed(2, text.toString(), 0), want);
    }

    @Sentence("of several alike the first one")
    static void firstOfAlike() {
        due(completed(0, "b ab ab b", 0), List.of(at(0, 0, 2, 2), at(0, 0, 0, 1)));
        due(completed(0, "ab ab a", 7), List.of(at(0, 0, 0, 2)));
        due(completed(1, "1 1 1 1", 7), List.of());
    }

    @Sentence("in the order of letters and digits (digits first, a shorter one ahead)")
    static void orderOfRuns() {
        due(completed(2, "z a 9 0 ", 8), List.of(at(0, 0, 6, 1), at(0, 0, 4, 1), at(0, 0, 2, 1), at(0, 0, 0, 1)));
        due(completed(2, "ab b aa a ", 10), List.of(at(0, 0, 8, 1), at(0, 0, 5, 2), at(0, 0, 0, 2), at(0, 0, 3, 1)));
        due(completed(2, "11 1 10 9 ", 10), List.of(at(0, 0, 3, 1), at(0, 0, 5, 2), at(0, 0, 0, 2), at(0, 0, 8, 1)));
        due(completed(2, "aaa aa a ", 9), List.of(at(0, 0, 7, 1), at(0, 0, 4, 2), at(0, 0, 0, 3)));
    }

    @Sentence("the run at the place, with the number of runs in the document that are like it as its value")
    static void hoverCount() {
        ToolPlex x = opened(2, "a ".repeat(49) + "aa");
        due(values(x, 0, ask(x, 1, HOVER, 0, 0)), List.of(49));
        due(values(x, 0, ask(x, 1, HOVER, 0, 98)), List.of(1));
        due(items(x, 0, ask(x, 1, HOVER, 0, 98)), List.of(at(0, 0, 98, 2)));
        ToolPlex y = opened(2, "a ".repeat(50));
        due(values(y, 0, ask(y, 1, HOVER, 0, 99)), List.of(50));
        due(items(y, 0, ask(y, 1, HOVER, 0, 99)), List.of(at(0, 0, 98, 1)));
        // not those of other documents
        ToolPlex z = plex("a", "a");
        z.server(63, 7, 0);
        z.open(0, 0);
        z.open(0, 1);
        due(values(z, 0, ask(z, 1, HOVER, 0, 0)), List.of(1));
    }

    @Sentence("the first run in the document that is like the run at the place")
    static void firstAlike() {
        ToolPlex x = opened(2, "aa a aa a");
        due(items(x, 0, ask(x, 1, DEFINITION, 0, 9)), List.of(at(0, 0, 3, 1)));
        due(items(x, 0, ask(x, 1, DEFINITION, 0, 3)), List.of(at(0, 0, 3, 1)));
        due(items(x, 0, ask(x, 1, DEFINITION, 0, 7)), List.of(at(0, 0, 0, 2)));
    }

    @Sentence("all runs of its style, in order, each with the value 0 for a word and 1 for a number")
    static void mostTokens() {
        ToolPlex x = opened(2, "a0".repeat(50));
        int tokens = ask(x, 1, TOKENS, 0, 0);
        due(x.standing(0, tokens), 1001);
        due(x.item(0, tokens, 99), at(0, 0, 99, 1));
        due(List.of(x.value(0, tokens, 0), x.value(0, tokens, 99)), List.of(0, 1));
        due(List.of(x.token(0, tokens, 0), x.token(0, tokens, 397), x.token(0, tokens, 399)), List.of(0, 1, 1));
        refused(x, OUT, () -> x.item(0, tokens, 100));
        refused(x, OUT, () -> x.token(0, tokens, 400));
        ToolPlex none = opened(2, "");
        due(none.standing(0, ask(none, 1, TOKENS, 0, 0)), 1);
    }

    @Sentence("all runs like the run at the place, in all documents of which the server has copies, by rising files")
    static void renamedEverywhere() {
        ToolPlex x = new ToolPlex();
        for (int f = 0; f < 6; f++) {
            x.file('p' + f, f == 4 ? 2 : 0);
            for (int code : new int[] {'a', ' ', 'a', 'a', ' ', 'a'}) {
                x.store(f, code);
            }
        }
        x.server(63, 3, 0);
        for (int f = 5; f >= 0; f--) {
            if (f != 2) {
                x.open(0, f);
            }
        }
        // the file 2 is not open, and the server does not deal with the language of the file 4
        due(items(x, 0, ask(x, 1, RENAME, 0, 0)), List.of(at(0, 0, 0, 1), at(0, 0, 5, 1), at(1, 0, 0, 1), at(1, 0, 5, 1),
                at(3, 0, 0, 1), at(3, 0, 5, 1), at(5, 0, 0, 1), at(5, 0, 5, 1)));
    }

    @Sentence("for each of these documents whose name is just that run, whether it has such runs or not, ahead of its"
            + " spans, an item that renames the file")
    static void renamedFiles() {
        ToolPlex x = plex("b a bb", "c", "");
        x.server(63, 7, 0);
        x.open(0, 0);
        int closed = ask(x, 1, RENAME, 0, 0);
        due(items(x, 0, closed), List.of(at(0, 0, 0, 1)));
        x.open(0, 1);
        due(items(x, 0, ask(x, 1, RENAME, 0, 0)), List.of(at(0, 0, 0, 1), at(1, 127, 127, 127)));
        due(items(x, 0, ask(x, 1, RENAME, 0, 2)), List.of(at(0, 127, 127, 127), at(0, 0, 2, 1)));
        // a longer run that begins with the name is not just that
        due(items(x, 0, ask(x, 1, RENAME, 0, 4)), List.of(at(0, 0, 4, 2)));
        x.open(0, 2);
        x.change(0, 0, 0, 0, 0, 1, 'c');
        due(items(x, 0, ask(x, 1, RENAME, 0, 0)), List.of(at(0, 0, 0, 1), at(1, 0, 0, 1), at(2, 127, 127, 127)));
    }

    @Sentence("the line in which the place is, without its end, if it is not empty")
    static void extracted() {
        ToolPlex x = opened(0, "ab\n\n 1\n");
        due(items(x, 0, ask(x, 1, EXTRACT, 0, 0)), List.of(at(0, 0, 0, 2)));
        due(items(x, 0, ask(x, 1, EXTRACT, 0, 2)), List.of(at(0, 0, 0, 2)));
        due(x.standing(0, ask(x, 1, EXTRACT, 1, 0)), 1);
        due(items(x, 0, ask(x, 1, EXTRACT, 2, 0)), List.of(at(0, 2, 0, 2)));
        due(items(x, 0, ask(x, 1, EXTRACT, 2, 2)), List.of(at(0, 2, 0, 2)));
        due(x.standing(0, ask(x, 1, EXTRACT, 3, 0)), 1);
        due(x.standing(0, ask(x, 1, EXTRACT, 4, 0)), 1);
        ToolPlex whole = opened(0, " ".repeat(100));
        due(items(whole, 0, ask(whole, 1, EXTRACT, 0, 100)), List.of(at(0, 0, 0, 100)));
        ToolPlex empty = opened(0, "");
        due(empty.standing(0, ask(empty, 1, EXTRACT, 0, 0)), 1);
    }

    @Sentence("by how many lines its line is later than that of the token before, or than the line 0")
    static void linesOfTokens() {
        ToolPlex x = opened(0, "a\nb c\n\n\nd");
        due(tokens(x, 0, ask(x, 1, TOKENS, 0, 0)), List.of(0, 0, 1, 0, 1, 0, 1, 0, 0, 2, 1, 0, 3, 0, 1, 0));
        ToolPlex y = opened(0, "\n".repeat(99) + "a");
        due(tokens(y, 0, ask(y, 1, TOKENS, 0, 0)), List.of(99, 0, 1, 0));
    }

    @Sentence("its unit in the line, less that of the token before, if this is in the same line; its units")
    static void unitsOfTokens() {
        ToolPlex x = opened(2, "  ab12  c\n   d e");
        due(tokens(x, 0, ask(x, 1, TOKENS, 0, 0)),
                List.of(0, 2, 2, 0, 0, 2, 2, 1, 0, 4, 1, 0, 1, 3, 1, 0, 0, 2, 1, 0));
        ToolPlex y = opened(2, " ".repeat(99) + "a");
        due(tokens(y, 0, ask(y, 1, TOKENS, 0, 0)), List.of(0, 99, 1, 0));
    }

    @Sentence("all runs of its style that are like the run of its style that comes right ahead of them in the document")
    static void faultsOfServers() {
        Object[][] rows = {{0, "", 0}, {0, "a", 0}, {0, "a b a", 0}, {0, "a a", 1}, {0, "a aa", 0}, {0, "aa a", 0},
            {0, "a a a", 2}, {0, "a 1 a", 1}, {2, "a 1 a", 0}, {1, "1a1\n1", 2}, {2, "1a1\n1", 1},
            {2, "a ".repeat(50), 49}};
        for (Object[] row : rows) {
            ToolPlex x = opened((Integer) row[0], (String) row[1]);
            due(x.tellFaults(0, 0), row[2]);
            x.deliverAll();
            due(x.faults(0, 0), row[2]);
        }
        ToolPlex most = opened(2, "a ".repeat(50));
        most.tellFaults(0, 0);
        most.deliverAll();
        due(List.of(most.fault(0, 0, 0), most.fault(0, 0, 48)), List.of(at(0, 0, 2, 1), at(0, 0, 98, 1)));
    }
}
