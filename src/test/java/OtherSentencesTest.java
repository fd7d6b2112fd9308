import java.util.ArrayList;
import java.util.List;

/**
 * The sentences of the document that name no boundary: for each one a test of its own, with its words at it. (Those
 * that name one have theirs in TermsBoundariesTest, MultiplexerBoundariesTest and CallBoundariesTest.)
 */
public final class OtherSentencesTest extends Checks {
    public static void main(String[] args) {
        runSentences(OtherSentencesTest.class);
        finish("OtherSentencesTest");
    }

    /** How many messages wait in each of the ten channels. */
    private static List<Integer> channels(ToolPlex x) {
        List<Integer> waiting = new ArrayList<>();
        for (int c = 0; c < 10; c++) {
            waiting.add(x.waiting(c));
        }
        return waiting;
    }

    /** What delivering from some channels, one after the other, answers. */
    private static List<Integer> delivered(ToolPlex x, int... channels) {
        List<Integer> kinds = new ArrayList<>();
        for (int c : channels) {
            kinds.add(x.deliver(c));
        }
        return kinds;
    }

    // ---- texts, files and positions

    @Sentence("A text is a row of units of sixteen bits.")
    static void unitsOfText() {
        ToolPlex x = plex("az09 \n");
        x.open(0, 0);
        x.change(0, 0, 0, 2, 0, 2, 'm');
        due(text(x, 0, 0), "azm09 \n");
        for (int face = 128512; face <= 128591; face++) {
            ToolPlex y = plex(Character.toString(face));
            y.open(0, 0);
            y.change(0, 0, 0, 2, 0, 2, face);
            due(text(y, 0, 0), Character.toString(face).repeat(2));
        }
    }

    @Sentence("A position is told by a line, from 0, and a unit in that line, from 0.")
    static void positions() {
        String text = "ab\ncd\nef";
        for (int line = 0; line < 3; line++) {
            for (int unit = 0; unit < 2; unit++) {
                ToolPlex x = opened(0, text);
                x.change(0, 0, line, unit, line, unit + 1, 'x');
                int place = 3 * line + unit;
                due(text(x, 0, 0), text.substring(0, place) + "x" + text.substring(place + 1));
            }
        }
    }

    @Sentence("Names ... are known to all sides at once, as they are.")
    static void namesAtOnce() {
        ToolPlex x = plex("a", "z", "a");
        x.server(63, 7, 0);
        for (int f = 0; f < 3; f++) {
            x.open(0, f);
        }
        x.deliverAll();
        int rename = ask(x, 1, RENAME, 0, 0);
        x.request(0, RENAME, 1, 0, 0, 'y');
        x.request(1, RENAME, openedBy(x, 1), 0, 0, 'y');
        x.deliverAll();
        // two requests wait at the server, for "z" and for "a", when the file "a" becomes "z": no message tells it that
        due(x.apply(0, rename), 2);
        due(List.of(x.name(0), x.waiting(2)), List.of('z', 0));
        due(List.of(x.answer(0, 0), x.answer(0, 0)), List.of(2, 3));
    }

    /** One more file, named "q", with the text "a", which an editor opens. */
    private static int openedBy(ToolPlex x, int editor) {
        int file = x.file('q', 0);
        x.store(file, 'a');
        x.open(editor, file);
        return file;
    }

    @Sentence("... and languages are known to all sides at once")
    static void languagesAtOnce() {
        ToolPlex x = new ToolPlex();
        x.server(63, 1, 0);
        x.server(63, 2, 0);
        for (int language = 0; language < 3; language++) {
            x.open(0, x.file('a' + language, language));
        }
        due(delivered(x, 0, 0, 0), List.of(0, 0, 0));
        due(channels(x), List.of(0, 0, 1, 1, 0, 0, 0, 0, 0, 0));
        x.deliverAll();
        due(List.of(x.version(3, 0), x.version(3, 1), x.version(3, 2)), List.of(1, -1, -1));
        due(List.of(x.version(4, 0), x.version(4, 1), x.version(4, 2)), List.of(-1, 1, -1));
    }

    @Sentence("A run is a word or a number.")
    static void wordsAndNumbers() {
        ToolPlex x = opened(2, "ab12cd 34");
        due(items(x, 0, ask(x, 1, TOKENS, 0, 0)),
                List.of(at(0, 0, 0, 2), at(0, 0, 2, 2), at(0, 0, 4, 2), at(0, 0, 7, 2)));
    }

    // ---- editors

    @Sentence("The editor sends the multiplexer OPEN with the version and the text, CHANGE with the version that it makes,"
            + " both positions and the character, and CLOSE with the version that is closed")
    static void sentByEditors() {
        for (int editor = 0; editor < 2; editor++) {
            ToolPlex x = plex("ab");
            due(x.open(editor, 0), 1);
            due(x.change(editor, 0, 0, 2, 0, 2, 'c'), 2);
            due(x.change(editor, 0, 0, 0, 0, 1, '\n'), 3);
            due(x.change(editor, 0, 1, 0, 1, 1, -1), 4);
            x.close(editor, 0);
            due(x.waiting(editor), 5);
            // the messages stay as they were sent, and the multiplexer does the same to its copy
            String[] texts = {"ab", "abc", "\nbc", "\nc"};
            for (int version = 1; version <= 4; version++) {
                due(x.deliver(editor), version == 1 ? ToolPlex.OPEN : ToolPlex.CHANGE);
                due(x.version(2, 0), version);
                due(text(x, 2, 0), texts[version - 1]);
            }
            due(x.deliver(editor), ToolPlex.CLOSE);
            due(x.version(2, 0), -1);
        }
    }

    @Sentence("and REQUEST with the version that its document has when it asks, which is that for which was asked")
    static void versionAsked() {
        ToolPlex x = opened(0, "ab");
        x.request(0, HOVER, 0, 0, 0, 0);
        x.change(0, 0, 0, 2, 0, 2, ' ');
        answers(x, 1);
        due(x.standing(0, 0), ToolPlex.STALE);
        x.change(0, 0, 0, 2, 0, 3, -1);
        x.request(0, HOVER, 0, 0, 0, 0);
        answers(x, 1);
        due(x.standing(0, 1), 11);
    }

    // ---- servers

    @Sentence("It has a copy of each document that it was given, with a version")
    static void copiesOfServers() {
        ToolPlex x = plex("ab", "cd");
        x.server(63, 7, 0);
        x.open(0, 0);
        x.change(0, 0, 0, 0, 0, 0, 'x');
        x.open(1, 1);
        x.deliver(0);
        x.deliver(0);
        x.deliver(1);
        due(delivered(x, 2), List.of(0));
        due(List.of(x.version(3, 0), text(x, 3, 0), x.version(3, 1)), List.of(1, "ab", -1));
        due(delivered(x, 2), List.of(1));
        due(List.of(x.version(3, 0), text(x, 3, 0), x.version(3, 1)), List.of(2, "xab", -1));
        due(delivered(x, 2), List.of(0));
        due(List.of(x.version(3, 0), x.version(3, 1), text(x, 3, 1)), List.of(2, 1, "cd"));
        x.close(0, 0);
        due(delivered(x, 0, 2), List.of(2, 2));
        due(List.of(x.version(3, 0), x.version(3, 1), text(x, 3, 1)), List.of(-1, 1, "cd"));
    }

    @Sentence("When it answers a request, it does so by its copies as they are then")
    static void answeredByCopiesThen() {
        ToolPlex x = opened(0, "a");
        x.request(0, TOKENS, 0, 0, 0, 0);
        x.deliverAll();
        x.change(0, 0, 0, 1, 0, 1, ' ');
        x.change(0, 0, 0, 2, 0, 2, 'b');
        // the changes are taken by the multiplexer, and one of them by the server
        due(delivered(x, 0, 0, 2), List.of(1, 1, 1));
        due(x.answer(0, 0), 1);
        x.request(0, TOKENS, 0, 0, 0, 0);
        x.deliverAll();
        due(x.answer(0, 0), 2);
        x.deliverAll();
        due(items(x, 0, 1), List.of(at(0, 0, 0, 1), at(0, 0, 2, 1)));
    }

    @Sentence("the answer has the id")
    static void idOfAnswer() {
        ToolPlex x = opened(0, "ab cd");
        x.request(0, HOVER, 0, 0, 0, 0);
        x.request(0, DEFINITION, 0, 0, 3, 0);
        x.deliverAll();
        x.answer(0, 1);
        x.deliverAll();
        due(List.of(x.standing(0, 0), items(x, 0, 1)), List.of(0, List.of(at(0, 0, 3, 2))));
        x.answer(0, 0);
        x.deliverAll();
        due(items(x, 0, 0), List.of(at(0, 0, 0, 2)));
    }

    @Sentence("the answer has ... the version of the copy")
    static void versionOfAnswer() {
        for (int kind : new int[] {DEFINITION, TOKENS}) {
            ToolPlex x = opened(0, "ab");
            x.request(0, kind, 0, 0, 0, 0);
            x.deliverAll();
            x.answer(0, 0);
            x.change(0, 0, 0, 0, 0, 0, '\n');
            due(delivered(x, 0, 5, 8), List.of(1, 5, 5));
            due(items(x, 0, 0), List.of(at(0, 1, 0, 2)));
        }
    }

    @Sentence("Such an answer has the versions of all copies.")
    static void versionsOfRename() {
        for (int file = 0; file < 4; file++) {
            ToolPlex x = plex("q", "q", "b", "q");
            x.server(63, 7, 0);
            for (int f = 0; f < 4; f++) {
                x.open(0, f);
                x.change(0, f, 0, 1, 0, 1, ' ');
            }
            x.deliverAll();
            x.request(0, RENAME, 3, 0, 0, Z);
            x.deliverAll();
            due(x.answer(0, 0), 3);
            x.change(0, file, 0, 1, 0, 2, -1);
            due(delivered(x, 0, 5, 8), List.of(1, 5, 5));
            due(x.standing(0, 0), file == 2 ? 31 : 3);
        }
    }

    @Sentence("Tokens are coded: for each token, in order, four numbers: ... and its value.")
    static void codedTokens() {
        ToolPlex x = opened(2, " a1\n22");
        due(tokens(x, 0, ask(x, 1, TOKENS, 0, 0)), List.of(0, 1, 1, 0, 0, 1, 1, 1, 1, 0, 2, 1));
    }

    @Sentence("A server can tell faults of a document: ..., with the version of its copy.")
    static void versionOfFaults() {
        ToolPlex x = opened(0, "a a");
        due(x.tellFaults(0, 0), 1);
        x.change(0, 0, 0, 0, 0, 0, '\n');
        due(delivered(x, 0, 5, 8), List.of(1, 6, 6));
        due(shownFaults(x, 0, 0), List.of(at(0, 1, 2, 1)));
    }

    // ---- the multiplexer

    @Sentence("(So what comes late from one editor does not touch what the other one has opened since.)")
    static void late() {
        ToolPlex x = plex("aa aa");
        x.server(63, 7, 0);
        x.open(0, 0);
        x.change(0, 0, 0, 5, 0, 5, ' ');
        x.close(0, 0);
        x.open(1, 0);
        int request = x.request(1, HOVER, 0, 0, 0, 0);
        due(delivered(x, 1, 1, 2, 2), List.of(0, 3, 0, 3));
        x.tellFaults(0, 0);
        due(delivered(x, 5, 9), List.of(6, 6));
        String before = text(x, 2, 0) + text(x, 3, 0) + shownFaults(x, 1, 0);
        due(delivered(x, 0, 0, 0), List.of(0, 1, 2));
        due(channels(x), List.of(0, 0, 0, 0, 0, 0, 0, 0, 0, 0));
        due(List.of(x.version(2, 0), x.version(3, 0)), List.of(3, 3));
        due(text(x, 2, 0) + text(x, 3, 0) + shownFaults(x, 1, 0), before);
        answers(x, 1);
        due(x.standing(1, request), 11);
        x.tellFaults(0, 0);
        x.deliverAll();
        due(shownFaults(x, 1, 0), List.of(at(0, 0, 3, 2)));
    }

    @Sentence("REQUEST of an editor: first, ..., that is cancelled as told below. Then it sends the request on")
    static void cancelledFirst() {
        ToolPlex x = opened(0, "ab");
        x.request(0, HOVER, 0, 0, 0, 0);
        x.deliverAll();
        x.request(0, HOVER, 0, 0, 0, 0);
        x.deliver(0);
        due(channels(x), List.of(0, 0, 2, 0, 0, 0, 0, 0, 1, 0));
        due(delivered(x, 2, 2), List.of(ToolPlex.CANCEL, ToolPlex.REQUEST));
        due(x.answer(0, 0), 1);
        refused(x, OUT, () -> x.answer(0, 0));
        due(delivered(x, 8, 5, 8), List.of(5, 5, 5));
        due(List.of(x.standing(0, 0), x.standing(0, 1)), List.of(2, 11));
        // also if the later one is answered with NOBODY, as the document is not open any more
        ToolPlex y = opened(0, "ab");
        y.request(0, HOVER, 0, 0, 0, 0);
        y.deliverAll();
        y.request(0, HOVER, 0, 0, 0, 0);
        y.close(0, 0);
        y.open(1, 0);
        y.close(1, 0);
        due(delivered(y, 1, 1, 0), List.of(0, 2, 3));
        due(channels(y), List.of(1, 0, 3, 0, 0, 0, 0, 0, 2, 0));
        due(delivered(y, 8), List.of(5));
        due(List.of(y.standing(0, 0), y.standing(0, 1)), List.of(2, 0));
        due(delivered(y, 8), List.of(5));
        due(List.of(y.standing(0, 0), y.standing(0, 1)), List.of(2, 4));
    }

    @Sentence("faults told by a server: ... Otherwise they are moved along to its version")
    static void faultsMovedToVersion() {
        ToolPlex x = opened(0, "a a a");
        x.tellFaults(0, 0);
        x.change(0, 0, 0, 0, 0, 2, -1);
        x.change(0, 0, 0, 1, 0, 1, 'b');
        x.deliver(0);
        x.deliver(0);
        due(delivered(x, 5, 8), List.of(6, 6));
        // "a a" with a "b" at the first one's end: that was the second one of three
        due(shownFaults(x, 0, 0), List.of(at(0, 0, 0, 1), at(0, 0, 3, 1)));
    }

    @Sentence("2 and 3: all items are moved along from the version of their answer to that of the multiplexer's copy")
    static void movedFromOwnVersions() {
        ToolPlex x = plex("a 1");
        x.server(63, 7, 0);
        x.server(63, 7, 1);
        x.open(0, 0);
        x.request(0, TOKENS, 0, 0, 0, 0);
        x.deliverAll();
        due(x.answer(0, 0), 1);
        x.change(0, 0, 0, 0, 0, 0, '\n');
        x.deliverAll();
        due(x.answer(1, 0), 1);
        x.change(0, 0, 1, 0, 1, 0, ' ');
        due(delivered(x, 0, 6, 8), List.of(1, 5, 5));
        due(items(x, 0, 0), List.of(at(0, 1, 1, 1), at(0, 1, 3, 1)));
    }

    @Sentence("Tokens are coded in both answers, by the text of the version that the answer has.")
    static void codedByVersionOfAnswer() {
        ToolPlex x = opened(0, "a\nb\nc");
        x.request(0, TOKENS, 0, 0, 0, 0);
        x.deliverAll();
        due(x.answer(0, 0), 3);
        // the server coded them in three lines, the multiplexer in two, and the editor has one more ahead of these
        x.change(0, 0, 0, 1, 1, 0, -1);
        due(delivered(x, 0, 5), List.of(1, 5));
        x.change(0, 0, 0, 0, 0, 0, '\n');
        due(x.deliver(8), 5);
        due(items(x, 0, 0), List.of(at(0, 1, 0, 1), at(0, 1, 1, 1), at(0, 2, 0, 1)));
        due(tokens(x, 0, 0), List.of(1, 0, 1, 0, 0, 1, 1, 0, 1, 0, 1, 0));
    }

    @Sentence("The answer that is sent to the editor has the version of the multiplexer's copy")
    static void versionOfMultiplexer() {
        for (int kind : new int[] {DEFINITION, TOKENS}) {
            ToolPlex x = opened(0, "ab");
            x.request(0, kind, 0, 0, 0, 0);
            x.deliverAll();
            x.answer(0, 0);
            x.change(0, 0, 0, 0, 0, 0, ' ');
            x.deliver(0);
            x.deliver(5);
            x.change(0, 0, 0, 0, 0, 0, '\n');
            // moved by one change in the multiplexer, and by the other one in the editor
            x.deliver(8);
            due(items(x, 0, 0), List.of(at(0, 1, 1, 2)));
        }
    }

    @Sentence("and, for 4, the versions of its copies of all documents of which it has items")
    static void versionsOfMultiplexer() {
        for (int file = 0; file < 3; file++) {
            ToolPlex x = plex("q", "q", "b");
            x.server(63, 7, 0);
            for (int f = 0; f < 3; f++) {
                x.open(0, f);
                x.change(0, f, 0, 1, 0, 1, ' ');
            }
            x.request(0, RENAME, 0, 0, 0, Z);
            x.deliverAll();
            x.answer(0, 0);
            x.deliver(5);
            // the multiplexer has answered, and does not know of the change
            x.change(0, file, 0, 1, 0, 2, -1);
            x.deliver(8);
            due(x.standing(0, 0), file == 2 ? 21 : 3);
        }
    }

    // ---- channels

    @Sentence("The channels 0 and 1 lead from the editors 0 and 1 to the multiplexer, 2 to 4 from it to the servers 0 to"
            + " 2, 5 to 7 from these to it, and 8 and 9 from it to the editors.")
    static void leading() {
        for (int editor = 0; editor < 2; editor++) {
            ToolPlex x = plex("ab");
            for (int s = 0; s < 3; s++) {
                x.server(63, 7, 0);
            }
            x.open(editor, 0);
            due(channels(x), editor == 0 ? List.of(1, 0, 0, 0, 0, 0, 0, 0, 0, 0) : List.of(0, 1, 0, 0, 0, 0, 0, 0, 0, 0));
            x.request(editor, HOVER, 0, 0, 0, 0);
            due(delivered(x, editor, editor), List.of(0, 3));
            due(channels(x), List.of(0, 0, 2, 2, 2, 0, 0, 0, 0, 0));
            for (int s = 2; s >= 0; s--) {
                due(delivered(x, 2 + s, 2 + s), List.of(0, 3));
                due(x.version(3 + s, 0), 1);
                due(x.answer(s, 0), 1);
                due(List.of(x.waiting(2 + s), x.waiting(5 + s)), List.of(0, 1));
            }
            due(delivered(x, 5, 6), List.of(5, 5));
            due(channels(x), List.of(0, 0, 0, 0, 0, 0, 0, 1, 0, 0));
            due(x.deliver(7), 5);
            due(channels(x), editor == 0 ? List.of(0, 0, 0, 0, 0, 0, 0, 0, 1, 0) : List.of(0, 0, 0, 0, 0, 0, 0, 0, 0, 1));
            due(x.deliver(8 + editor), 5);
            due(x.standing(editor, 0), 11);
        }
    }
}
