import java.util.ArrayList;
import java.util.List;

/**
 * The boundaries that the Terms of the document name from "The multiplexer" on: for each sentence a test of its own,
 * with its words at it.
 */
public final class MultiplexerBoundariesTest extends Checks {
    public static void main(String[] args) {
        runSentences(MultiplexerBoundariesTest.class);
        finish("MultiplexerBoundariesTest");
    }

    /** The file 0 was opened, changed and closed by the editor 0, with 1 to 2, and opened by the editor 1, with 3. */
    private static ToolPlex handedOver() {
        ToolPlex x = plex("aa aa");
        x.server(63, 7, 0);
        x.open(0, 0);
        x.change(0, 0, 0, 5, 0, 5, 'b');
        x.close(0, 0);
        x.open(1, 0);
        return x;
    }

    // ---- OPEN, CHANGE and CLOSE

    @Sentence("it drops OPEN with a version that is not greater than all that it took of the file so far")
    static void lateOpen() {
        ToolPlex x = handedOver();
        due(x.deliver(1), 0);
        due(x.deliver(0), 0);
        due(List.of(x.version(2, 0), x.waiting(2)), List.of(3, 1));
        due(text(x, 2, 0), "aa aab");
        // it is dropped, too, when the copy is gone
        ToolPlex y = handedOver();
        y.close(1, 0);
        y.deliver(1);
        y.deliver(1);
        due(List.of(y.version(2, 0), y.waiting(2)), List.of(-1, 2));
        due(y.deliver(0), 0);
        due(List.of(y.version(2, 0), y.waiting(2)), List.of(-1, 2));
        // a greater one is taken though the copy of the other editor is still there; other files do not matter
        ToolPlex z = plex("a", "b");
        z.server(63, 7, 0);
        z.open(0, 0);
        z.change(0, 0, 0, 0, 0, 0, 'x');
        z.deliverAll();
        z.close(0, 0);
        z.open(1, 0);
        z.open(1, 1);
        z.deliver(1);
        z.deliver(1);
        due(List.of(z.version(2, 0), z.version(2, 1), z.waiting(2)), List.of(3, 1, 2));
    }

    @Sentence("CHANGE, unless the version that it makes is the next one of the copy that it has")
    static void lateChange() {
        ToolPlex x = handedOver();
        x.deliver(0);
        x.deliver(1);
        due(List.of(x.version(2, 0), x.waiting(2)), List.of(3, 2));
        due(x.deliver(0), 1);
        due(List.of(x.version(2, 0), x.waiting(2)), List.of(3, 2));
        due(text(x, 2, 0), "aa aab");
        // there is no copy
        ToolPlex y = handedOver();
        y.close(1, 0);
        y.deliver(0);
        y.deliver(1);
        y.deliver(1);
        due(y.waiting(2), 3);
        due(y.deliver(0), 1);
        due(List.of(y.version(2, 0), y.waiting(2)), List.of(-1, 3));
        // the next one is taken
        ToolPlex z = handedOver();
        z.change(1, 0, 0, 0, 0, 0, 'c');
        z.deliver(1);
        z.deliver(1);
        due(List.of(z.version(2, 0), z.waiting(2)), List.of(4, 2));
        due(text(z, 2, 0), "caa aab");
    }

    @Sentence("and CLOSE, unless it has a copy of that version")
    static void lateClose() {
        ToolPlex x = handedOver();
        x.deliver(1);
        x.deliver(0);
        x.deliver(0);
        due(x.deliver(0), 2);
        due(List.of(x.version(2, 0), x.waiting(2)), List.of(3, 1));
        ToolPlex y = handedOver();
        y.close(1, 0);
        y.deliver(1);
        y.deliver(1);
        y.deliver(0);
        y.deliver(0);
        due(y.waiting(2), 2);
        due(y.deliver(0), 2);
        due(List.of(y.version(2, 0), y.waiting(2)), List.of(-1, 2));
        ToolPlex z = handedOver();
        due(List.of(z.deliver(0), z.deliver(0), z.deliver(0)), List.of(0, 1, 2));
        due(List.of(z.version(2, 0), z.waiting(2)), List.of(-1, 3));
    }

    @Sentence("passes the message on to all servers that are up and deal with the language of the file, by rising numbers")
    static void passedOn() {
        ToolPlex x = new ToolPlex();
        x.file('a', 1);
        x.server(63, 2, 0);
        x.server(63, 5, 0);
        x.server(1, 7, 0);
        x.open(0, 0);
        x.deliver(0);
        due(List.of(x.waiting(2), x.waiting(3), x.waiting(4)), List.of(1, 0, 1));
        x.crash(0);
        x.change(0, 0, 0, 0, 0, 0, 'a');
        x.deliver(0);
        due(List.of(x.waiting(2), x.waiting(3), x.waiting(4)), List.of(0, 0, 2));
        x.crash(2);
        x.close(0, 0);
        due(x.deliver(0), 2);
        due(List.of(x.waiting(2), x.waiting(3), x.waiting(4)), List.of(0, 0, 0));
        // without servers the multiplexer has its copy all the same
        ToolPlex none = plex("a");
        none.open(0, 0);
        due(none.deliverAll(), 1);
        due(none.version(2, 0), 1);
    }

    /** Server 0 has told a fault that the multiplexer keeps; server 1 can tell none. */
    private static ToolPlex keptFault() {
        ToolPlex x = plex("aa aa");
        x.server(63, 7, 0);
        x.server(63, 7, 1);
        x.open(0, 0);
        x.deliverAll();
        due(x.tellFaults(0, 0), 1);
        x.deliverAll();
        return x;
    }

    private static List<Integer> sentAgain(ToolPlex x, int editor) {
        due(x.tellFaults(1, 0), 0);
        x.deliverAll();
        return shownFaults(x, editor, 0);
    }

    @Sentence("By CHANGE the faults that it keeps for the document are moved along; by OPEN and CLOSE they are gone.")
    static void keptFaults() {
        ToolPlex x = keptFault();
        due(sentAgain(x, 0), List.of(at(0, 0, 3, 2)));
        x.change(0, 0, 0, 3, 0, 3, ' ');
        due(sentAgain(x, 0), List.of(at(0, 0, 4, 2)));
        x.change(0, 0, 0, 5, 0, 5, ' ');
        due(sentAgain(x, 0), List.of());
        // CLOSE, and OPEN behind it
        ToolPlex y = keptFault();
        y.close(0, 0);
        y.deliverAll();
        y.open(0, 0);
        y.deliverAll();
        due(sentAgain(y, 0), List.of());
        // OPEN alone, as CLOSE comes late
        ToolPlex z = keptFault();
        z.close(0, 0);
        z.open(1, 0);
        z.deliver(1);
        z.deliverAll();
        due(sentAgain(z, 1), List.of());
        // an OPEN that is dropped, and one of another file, do not matter
        ToolPlex w = plex("aa aa", "b");
        w.server(63, 7, 0);
        w.server(63, 7, 1);
        w.open(1, 0);
        w.close(1, 0);
        w.open(0, 0);
        w.deliver(0);
        w.deliver(2);
        w.deliver(3);
        due(w.tellFaults(0, 0), 1);
        w.deliver(5);
        w.deliver(8);
        due(w.deliver(1), 0);
        due(w.deliver(1), 2);
        w.open(0, 1);
        w.deliverAll();
        w.close(0, 1);
        w.deliverAll();
        due(w.version(2, 0), 2);
        due(sentAgain(w, 0), List.of(at(0, 0, 3, 2)));
    }

    @Sentence("It has a copy of each open document, with all versions. (those since it was opened: what was changed before"
            + " moves nothing)")
    static void openedAgain() {
        for (int late = 0; late < 3; late++) {
            ToolPlex x = opened(0, "aa aa");
            for (int i = 0; i < 4; i++) {
                x.change(0, 0, 0, 0, 0, 0, ' ');
            }
            x.close(0, 0);
            due(x.open(0, 0), 6);
            x.deliverAll();
            x.request(0, TOKENS, 0, 0, 0, 0);
            x.request(0, DEFINITION, 0, 0, 4, 0);
            x.deliverAll();
            x.answer(0, 0);
            x.answer(0, 0);
            x.tellFaults(0, 0);
            for (int i = 0; i < 3 * late; i++) {
                x.deliver(i < 3 ? 5 : 8);
            }
            due(x.change(0, 0, 0, 0, 0, 0, 'b'), 7);
            due(x.change(0, 0, 0, 1, 0, 1, '\n'), 8);
            x.deliverAll();
            due(items(x, 0, 0), List.of(at(0, 1, 4, 2), at(0, 1, 7, 2)));
            due(items(x, 0, 1), List.of(at(0, 1, 4, 2)));
            due(shownFaults(x, 0, 0), List.of(at(0, 1, 7, 2)));
        }
    }

    @Sentence("the faults that it keeps for the document (of each server, and of the last file, too)")
    static void keptFaultsOfAll() {
        for (int file = 0; file < 6; file += 5) {
            for (int told = 0; told < 3; told++) {
                ToolPlex x = plex("", "", "", "", "", "");
                for (int unit = 0; unit < 3; unit++) {
                    x.store(file, unit == 1 ? ' ' : 'a');
                }
                for (int s = 0; s < 3; s++) {
                    x.server(63, 7, s == told ? 0 : 1);
                }
                x.open(1, file);
                x.deliverAll();
                due(x.tellFaults(told, file), 1);
                x.deliverAll();
                x.change(1, file, 0, 0, 0, 0, ' ');
                x.deliverAll();
                for (int s = 0; s < 3; s++) {
                    due(x.tellFaults(s, file), s == told ? 1 : 0);
                    x.deliverAll();
                    due(shownFaults(x, 1, file), List.of(at(file, 0, 3, 1)));
                }
                // OPEN alone, as CLOSE comes late
                x.close(1, file);
                x.open(0, file);
                x.deliver(0);
                x.deliverAll();
                due(x.tellFaults((told + 1) % 3, file), 0);
                x.deliverAll();
                due(x.faults(0, file), 0);
            }
        }
    }

    // ---- REQUEST and CANCEL

    @Sentence("if it has a request of the same editor, kind and file that is not answered, that is cancelled")
    static void superseded() {
        ToolPlex x = plex("a", "b");
        x.server(63, 7, 0);
        x.server(63, 7, 0);
        x.open(0, 0);
        x.open(0, 1);
        x.deliverAll();
        x.request(0, HOVER, 0, 0, 0, 0);
        x.request(0, TOKENS, 0, 0, 0, 0);
        x.request(0, HOVER, 1, 0, 0, 0);
        x.deliverAll();
        due(List.of(x.standing(0, 0), x.standing(0, 1), x.standing(0, 2)), List.of(0, 0, 0));
        // the second one of the same: only the server that has not answered is told
        due(x.answer(0, 0), 1);
        x.deliver(5);
        x.request(0, HOVER, 0, 0, 0, 0);
        x.deliver(0);
        due(List.of(x.waiting(2), x.waiting(3), x.waiting(8)), List.of(1, 2, 1));
        due(List.of(x.deliver(3), x.deliver(3), x.deliver(8)), List.of(4, 3, 5));
        due(List.of(x.standing(0, 0), x.standing(0, 1), x.standing(0, 2), x.standing(0, 3)), List.of(2, 0, 0, 0));
        answers(x, 2);
        due(List.of(x.standing(0, 1), x.standing(0, 2), x.standing(0, 3)), List.of(11, 11, 11));
        // one that is answered is not cancelled, though its answer waits
        ToolPlex y = opened(0, "a");
        y.request(0, HOVER, 0, 0, 0, 0);
        y.deliverAll();
        y.answer(0, 0);
        y.deliver(5);
        y.request(0, HOVER, 0, 0, 0, 0);
        y.deliverAll();
        due(List.of(y.standing(0, 0), y.standing(0, 1)), List.of(11, 0));
        // one of the other editor is not cancelled
        ToolPlex z = opened(0, "a");
        z.request(0, HOVER, 0, 0, 0, 0);
        z.close(0, 0);
        z.open(1, 0);
        z.request(1, HOVER, 0, 0, 0, 0);
        z.deliverAll();
        due(List.of(z.standing(0, 0), z.standing(1, 0)), List.of(0, 0));
        due(List.of(z.answer(0, 0), z.answer(0, 0)), List.of(1, 1));
        z.deliverAll();
        due(List.of(z.standing(0, 0), z.standing(1, 0)), List.of(3, 11));
        // the answer of the superseded one comes late, and is dropped
        ToolPlex w = opened(0, "a");
        w.request(0, HOVER, 0, 0, 0, 0);
        w.deliverAll();
        w.answer(0, 0);
        w.request(0, HOVER, 0, 0, 0, 0);
        w.deliverAll();
        due(List.of(w.standing(0, 0), w.standing(0, 1)), List.of(2, 0));
    }

    @Sentence("it sends the request on to all servers that are up and deal with its kind and the language, by rising"
            + " numbers, to each with the next id of its own, from 0 on")
    static void nextIds() {
        ToolPlex x = plex("a");
        x.server(62, 7, 0);
        x.server(63, 6, 0);
        x.server(63, 1, 0);
        x.open(0, 0);
        x.request(0, TOKENS, 0, 0, 0, 0);
        x.request(0, COMPLETION, 0, 0, 0, 0);
        x.request(0, HOVER, 0, 0, 0, 0);
        x.deliverAll();
        due(List.of(x.id(0, 0, 0), x.id(0, 0, 1), x.id(0, 0, 2)), List.of(0, -1, 1));
        due(List.of(x.id(0, 1, 0), x.id(0, 1, 1), x.id(0, 1, 2)), List.of(-1, -1, 2));
        due(List.of(x.id(0, 2, 0), x.id(0, 2, 1), x.id(0, 2, 2)), List.of(3, -1, 4));
        x.crash(0);
        x.request(0, HOVER, 0, 0, 0, 0);
        x.deliverAll();
        due(List.of(x.id(0, 3, 0), x.id(0, 3, 1), x.id(0, 3, 2)), List.of(-1, -1, 5));
        x.start(0);
        x.request(0, HOVER, 0, 0, 0, 0);
        x.deliverAll();
        due(List.of(x.id(0, 4, 0), x.id(0, 4, 1), x.id(0, 4, 2)), List.of(6, -1, 7));
    }

    @Sentence("the next id of its own, from 0 on (the last one of all)")
    static void lastId() {
        ToolPlex x = plex("a", "a");
        for (int i = 0; i < 3; i++) {
            x.server(63, 7, 0);
        }
        x.open(0, 0);
        x.open(1, 1);
        for (int r = 0; r < 40; r++) {
            x.request(0, r % 6, 0, 0, 0, Z);
            x.request(1, r % 6, 1, 0, 0, Z);
        }
        x.deliverAll();
        for (int r = 0; r < 40; r++) {
            for (int s = 0; s < 3; s++) {
                due(List.of(x.id(0, r, s), x.id(1, r, s)), List.of(3 * r + s, 120 + 3 * r + s));
            }
            due(List.of(x.standing(0, r), x.standing(1, r)), r < 34 ? List.of(2, 2) : List.of(0, 0));
        }
    }

    @Sentence("If there are none, or the document is not open, it is answered at once with NOBODY.")
    static void nobody() {
        // there is no server; none is up; none deals with the kind; none with the language
        ToolPlex none = plex("a");
        ToolPlex down = opened(0, "a");
        down.crash(0);
        ToolPlex kind = plex("a");
        kind.server(61, 7, 0);
        ToolPlex language = plex("a");
        language.server(63, 6, 0);
        for (ToolPlex x : List.of(none, down, kind, language)) {
            if (x != down) {
                x.open(0, 0);
            }
            x.deliverAll();
            x.request(0, HOVER, 0, 0, 0, 0);
            due(x.deliver(0), 3);
            due(List.of(x.waiting(2), x.waiting(8), x.standing(0, 0)), List.of(0, 1, 0));
            x.deliver(8);
            due(x.standing(0, 0), ToolPlex.NOBODY);
            refused(x, NOT, () -> x.cancel(0, 0));
        }
        // the document is not open: for each kind
        for (int k = 0; k < 6; k++) {
            ToolPlex x = plex("a");
            x.server(63, 7, 0);
            x.open(0, 0);
            x.request(0, k, 0, 0, 0, Z);
            x.close(0, 0);
            x.open(1, 0);
            x.close(1, 0);
            x.deliver(1);
            x.deliver(1);
            x.deliver(0);
            due(x.deliver(0), 3);
            due(List.of(x.waiting(2), x.waiting(8)), List.of(2, 1));
            x.deliverAll();
            due(List.of(x.standing(0, 0), x.id(0, 0, 0)), List.of(ToolPlex.NOBODY, -1));
        }
        // an earlier request of the same editor, kind and file is cancelled first, all the same
        ToolPlex x = opened(0, "a");
        x.request(0, HOVER, 0, 0, 0, 0);
        x.deliverAll();
        x.close(0, 0);
        x.open(0, 0);
        x.request(0, HOVER, 0, 0, 0, 0);
        x.close(0, 0);
        x.open(1, 0);
        x.close(1, 0);
        x.deliver(1);
        x.deliver(1);
        x.deliver(0);
        x.deliver(0);
        due(List.of(x.waiting(2), x.waiting(8)), List.of(2, 0));
        due(x.deliver(0), 3);
        due(List.of(x.waiting(2), x.waiting(8)), List.of(3, 2));
        x.deliver(8);
        due(List.of(x.standing(0, 0), x.standing(0, 1)), List.of(2, 0));
        x.deliver(8);
        due(List.of(x.standing(0, 0), x.standing(0, 1)), List.of(2, 4));
    }

    @Sentence("CANCEL of an editor: if it has that request, unanswered, that is cancelled: it sends CANCEL with its ids to"
            + " all servers that have not answered it, by rising numbers, answers it with CANCELLED, and forgets it.")
    static void cancelled() {
        ToolPlex x = plex("a");
        for (int i = 0; i < 3; i++) {
            x.server(63, 7, 0);
        }
        x.open(0, 0);
        x.request(0, HOVER, 0, 0, 0, 0);
        x.request(0, TOKENS, 0, 0, 0, 0);
        x.deliverAll();
        x.answer(1, 0);
        x.deliver(6);
        x.cancel(0, 0);
        x.cancel(0, 0);
        x.deliver(0);
        due(List.of(x.waiting(2), x.waiting(3), x.waiting(4), x.waiting(8)), List.of(1, 0, 1, 1));
        // it is forgotten: the second CANCEL does nothing
        due(x.deliver(0), 4);
        due(List.of(x.waiting(2), x.waiting(3), x.waiting(4), x.waiting(8)), List.of(1, 0, 1, 1));
        x.deliverAll();
        due(List.of(x.standing(0, 0), x.standing(0, 1)), List.of(2, 0));
        // the other one is there still, at each server
        answers(x, 3);
        due(x.standing(0, 1), 11);
        // one with the same number, of the other editor, stays
        ToolPlex y = plex("a", "b");
        y.server(63, 7, 0);
        y.open(0, 0);
        y.open(1, 1);
        y.request(0, HOVER, 0, 0, 0, 0);
        y.request(1, HOVER, 1, 0, 0, 0);
        y.deliverAll();
        y.cancel(0, 0);
        due(y.deliverAll(), 3);
        due(List.of(y.standing(0, 0), y.standing(1, 0)), List.of(2, 0));
        y.answer(0, 0);
        y.deliverAll();
        due(items(y, 1, 0), List.of(at(1, 0, 0, 1)));
        // it was answered already: CANCEL does nothing
        x.request(0, HOVER, 0, 0, 0, 0);
        x.deliverAll();
        x.answer(0, 0);
        x.answer(1, 0);
        x.answer(2, 0);
        x.deliver(5);
        x.deliver(6);
        x.cancel(0, 2);
        x.deliver(7);
        due(x.deliver(0), 4);
        due(List.of(x.waiting(2), x.waiting(3), x.waiting(4), x.waiting(8)), List.of(0, 0, 0, 1));
        x.deliverAll();
        due(x.standing(0, 2), 11);
    }

    @Sentence("an answer of a server: if it does not wait for that id, it drops it")
    static void droppedAnswer() {
        ToolPlex x = opened(0, "a");
        x.request(0, HOVER, 0, 0, 0, 0);
        x.request(0, TOKENS, 0, 0, 0, 0);
        x.deliverAll();
        x.answer(0, 0);
        x.answer(0, 0);
        x.cancel(0, 0);
        x.deliver(0);
        due(x.waiting(8), 1);
        due(x.deliver(5), 5);
        due(x.waiting(8), 1);
        due(x.deliver(5), 5);
        due(x.waiting(8), 2);
        x.deliverAll();
        due(List.of(x.standing(0, 0), x.standing(0, 1)), List.of(2, 11));
    }

    @Sentence("Otherwise the server has answered; when all have, the answers are merged, and the request is answered.")
    static void allHaveAnswered() {
        for (int last = 0; last < 3; last++) {
            ToolPlex x = plex("a");
            for (int i = 0; i < 3; i++) {
                x.server(63, 7, 0);
            }
            x.open(0, 0);
            x.request(0, HOVER, 0, 0, 0, 0);
            x.deliverAll();
            for (int i = 1; i <= 3; i++) {
                due(x.waiting(8), 0);
                x.answer((last + i) % 3, 0);
                x.deliver(5 + (last + i) % 3);
            }
            due(x.waiting(8), 1);
            x.deliver(8);
            due(x.standing(0, 0), 11);
        }
    }

    // ---- faults told by servers

    @Sentence("it drops them if the document is not open, or their version is less than that with which it was opened")
    static void droppedFaults() {
        // not open
        ToolPlex x = opened(0, "a a");
        x.close(0, 0);
        due(x.tellFaults(0, 0), 1);
        x.deliver(0);
        due(x.deliver(5), 6);
        due(List.of(x.waiting(2), x.waiting(8), x.deliverAll()), List.of(1, 0, 1));
        // opened since, with a later version
        ToolPlex y = opened(0, "a a");
        due(y.tellFaults(0, 0), 1);
        y.close(0, 0);
        y.open(1, 0);
        y.deliver(1);
        due(y.deliver(5), 6);
        due(List.of(y.waiting(8), y.waiting(9)), List.of(0, 0));
        // just the version with which it was opened
        ToolPlex z = opened(0, "a a");
        due(z.tellFaults(0, 0), 1);
        z.change(0, 0, 0, 0, 0, 0, ' ');
        z.deliver(0);
        due(z.deliver(5), 6);
        due(z.waiting(8), 1);
        z.deliver(8);
        due(shownFaults(z, 0, 0), List.of(at(0, 0, 3, 1)));
    }

    @Sentence("kept in place of those that it had of that server for that document")
    static void keptInPlace() {
        ToolPlex x = plex("a a", "b b");
        x.server(63, 7, 0);
        x.server(63, 7, 2);
        x.open(0, 0);
        x.open(0, 1);
        x.deliverAll();
        for (int s = 0; s < 2; s++) {
            x.tellFaults(s, 0);
            x.tellFaults(s, 1);
        }
        x.deliverAll();
        due(List.of(x.faults(0, 0), x.faults(0, 1)), List.of(1, 1));
        // none in place of one: of the server 0, then of the server 1
        x.change(0, 0, 0, 3, 0, 3, '1');
        x.change(0, 0, 0, 2, 0, 2, 'b');
        x.change(0, 0, 0, 2, 0, 3, -1);
        due(x.change(0, 0, 0, 1, 0, 1, 'c'), 5);
        due(shownFaults(x, 0, 0), List.of(at(0, 0, 3, 1)));
        x.deliverAll();
        due(x.tellFaults(0, 0), 0);
        x.deliverAll();
        due(shownFaults(x, 0, 0), List.of(at(0, 0, 3, 1)));
        due(x.tellFaults(1, 0), 0);
        x.deliverAll();
        due(shownFaults(x, 0, 0), List.of());
        due(shownFaults(x, 0, 1), List.of(at(1, 0, 2, 1)));
    }

    @Sentence("all faults that it keeps for the document, of all servers: each span once, by rising starts, of the same"
            + " start by rising ends")
    static void mergedFaults() {
        ToolPlex x = plex("b b");
        x.server(63, 7, 0);
        x.server(63, 7, 0);
        x.server(63, 7, 0);
        x.open(0, 0);
        x.deliverAll();
        x.tellFaults(0, 0);
        x.tellFaults(1, 0);
        x.deliverAll();
        due(shownFaults(x, 0, 0), List.of(at(0, 0, 2, 1)));
        x.change(0, 0, 0, 3, 0, 3, 'b');
        x.change(0, 0, 0, 1, 0, 1, 'b');
        x.deliverAll();
        // server 1: (3, 4) of before; server 0 and 2: (3, 5) anew
        x.tellFaults(0, 0);
        x.tellFaults(2, 0);
        x.deliverAll();
        due(shownFaults(x, 0, 0), List.of(at(0, 0, 3, 1), at(0, 0, 3, 2)));
        // the same order if the lower server has the longer span, and a later one starts ahead of both
        x.change(0, 0, 0, 2, 0, 2, ' ');
        x.change(0, 0, 0, 0, 0, 1, ' ');
        x.change(0, 0, 0, 1, 0, 2, ' ');
        x.change(0, 0, 0, 0, 0, 1, '1');
        x.change(0, 0, 0, 1, 0, 2, '1');
        x.deliverAll();
        due(text(x, 0, 0), "11  bb");
        due(shownFaults(x, 0, 0), List.of(at(0, 0, 4, 1), at(0, 0, 4, 2)));
        due(x.tellFaults(2, 0), 0);
        x.deliverAll();
        due(shownFaults(x, 0, 0), List.of(at(0, 0, 4, 1), at(0, 0, 4, 2)));
        x.change(0, 0, 0, 0, 0, 1, 'c');
        x.change(0, 0, 0, 1, 0, 2, ' ');
        x.change(0, 0, 0, 2, 0, 3, 'c');
        x.deliverAll();
        due(text(x, 0, 0), "c c bb");
        due(x.tellFaults(2, 0), 1);
        x.deliverAll();
        due(shownFaults(x, 0, 0), List.of(at(0, 0, 2, 1), at(0, 0, 4, 1), at(0, 0, 4, 2)));
    }

    @Sentence("then it sends the editor from which it has its copy all faults")
    static void editorOfCopy() {
        ToolPlex x = plex("a a");
        x.server(63, 7, 0);
        x.open(1, 0);
        x.deliverAll();
        x.tellFaults(0, 0);
        x.deliver(5);
        due(List.of(x.waiting(8), x.waiting(9)), List.of(0, 1));
        x.close(1, 0);
        x.open(0, 0);
        x.deliver(0);
        x.deliver(2);
        x.tellFaults(0, 0);
        x.deliver(5);
        due(List.of(x.waiting(8), x.waiting(9)), List.of(1, 1));
        x.deliverAll();
        due(List.of(x.faults(0, 0), x.faults(1, 0)), List.of(1, 0));
    }

    // ---- merging

    @Sentence("0, 1, 4 and 5: if the multiplexer's copy has another version by now than that for which was asked, the"
            + " answer is STALE.")
    static void anotherVersion() {
        for (int kind = 0; kind < 6; kind++) {
            boolean moved = kind == DEFINITION || kind == TOKENS;
            for (int changed = 0; changed < 2; changed++) {
                ToolPlex x = plex("ab a", "q");
                x.server(63, 7, 0);
                x.open(0, 0);
                x.open(0, 1);
                x.request(0, kind, 0, 0, 1, Z);
                x.deliverAll();
                x.answer(0, 0);
                // a change that replaces nothing by nothing makes a version, too; one of another file does not matter
                x.change(0, 1 - changed, 0, 0, 0, 0, -1);
                x.deliver(0);
                x.deliver(5);
                x.deliver(8);
                due(x.standing(0, 0) == ToolPlex.STALE, !moved && changed == 1);
            }
        }
    }

    /** Files "p" and "q": the editor 0 has asked to rename "c" in both, and the first server has answered. */
    private static ToolPlex renaming(int servers) {
        ToolPlex x = new ToolPlex();
        x.file('p', 0);
        x.file('q', 0);
        x.store(0, 'c');
        x.store(1, 'c');
        for (int i = 0; i < servers; i++) {
            x.server(63, 7, 0);
        }
        x.open(0, 0);
        x.open(0, 1);
        x.request(0, RENAME, 0, 0, 0, Z);
        x.deliverAll();
        due(x.answer(0, 0), 2);
        return x;
    }

    /** Files "p" and "q": the editor 0 has asked the one server to rename "c" in both, at its place in the second one. */
    private static ToolPlex renamingUpper() {
        ToolPlex x = new ToolPlex();
        x.file('p', 0);
        x.file('q', 0);
        x.store(0, 'c');
        x.store(1, 'c');
        x.server(63, 7, 0);
        x.open(0, 0);
        x.open(0, 1);
        x.request(0, RENAME, 1, 0, 0, Z);
        x.deliverAll();
        return x;
    }

    @Sentence("an answer of 4 is left out that has another version of some document, of which it has items, than the"
            + " multiplexer's copy of that has now (or of which it has no copy)")
    static void leftOut() {
        // changed
        ToolPlex x = renaming(1);
        x.change(0, 1, 0, 0, 0, 0, -1);
        x.deliverAll();
        due(x.standing(0, 0), 3);
        // no copy
        ToolPlex y = renaming(1);
        y.close(0, 1);
        y.deliver(0);
        due(y.deliver(5), 5);
        y.deliverAll();
        due(y.standing(0, 0), 3);
        // closed, and opened again
        ToolPlex z = renaming(1);
        z.close(0, 1);
        z.open(0, 1);
        z.deliverAll();
        due(z.standing(0, 0), 3);
        // a document of which it has only the item that renames it
        ToolPlex w = plex("b", "");
        w.server(63, 7, 0);
        w.open(0, 0);
        w.open(0, 1);
        w.request(0, RENAME, 0, 0, 0, Z);
        w.deliverAll();
        due(w.answer(0, 0), 2);
        w.change(0, 1, 0, 0, 0, 0, 'x');
        w.deliverAll();
        due(w.standing(0, 0), 3);
        // a document with a lower number than that for which was asked
        ToolPlex u = renamingUpper();
        u.answer(0, 0);
        u.change(0, 0, 0, 0, 0, 0, -1);
        u.deliverAll();
        due(u.standing(0, 0), 3);
        // a document of which it has no items does not matter
        ToolPlex v = plex("c", "d");
        v.server(63, 7, 0);
        v.open(0, 0);
        v.open(0, 1);
        v.request(0, RENAME, 0, 0, 0, Z);
        v.deliverAll();
        due(v.answer(0, 0), 1);
        v.change(0, 1, 0, 0, 0, 0, 'x');
        v.deliverAll();
        due(v.standing(0, 0), 11);
    }

    @Sentence("If none has some, but one was left out that had, the answer is STALE.")
    static void noneButLeftOut() {
        // one left out, the other one without items by a crash
        ToolPlex x = renaming(2);
        x.change(0, 1, 0, 0, 0, 0, -1);
        x.deliverAll();
        x.crash(1);
        x.deliverAll();
        due(x.standing(0, 0), 3);
        // one left out, the other one has some
        ToolPlex y = renaming(2);
        y.change(0, 1, 0, 0, 0, 0, ' ');
        y.deliverAll();
        due(y.answer(1, 0), 2);
        y.deliverAll();
        due(items(y, 0, 0), List.of(at(0, 0, 0, 1), at(1, 0, 1, 1)));
        // the lower one has some, the higher one is left out
        ToolPlex w = plex("c", "c");
        w.server(63, 7, 0);
        w.server(63, 7, 0);
        w.open(0, 0);
        w.open(0, 1);
        w.request(0, RENAME, 0, 0, 0, Z);
        w.deliverAll();
        w.answer(1, 0);
        w.change(0, 1, 0, 0, 0, 0, ' ');
        w.deliverAll();
        w.answer(0, 0);
        w.deliverAll();
        due(items(w, 0, 0), List.of(at(0, 0, 0, 1), at(1, 0, 1, 1)));
        // none has some, and none was left out
        ToolPlex z = renaming(1);
        z.crash(0);
        z.deliverAll();
        due(z.standing(0, 0), 1);
        // an answer without items is not left out, whatever its versions
        ToolPlex v = plex(" ", "c");
        v.server(63, 7, 0);
        v.open(0, 0);
        v.open(0, 1);
        v.request(0, RENAME, 0, 0, 0, Z);
        v.deliverAll();
        due(v.answer(0, 0), 0);
        v.change(0, 1, 0, 0, 0, 0, ' ');
        v.deliverAll();
        due(v.standing(0, 0), 1);
    }

    @Sentence("of 0, of all items those whose run is unlike those of items of lower servers, in the order of runs")
    static void mergedRuns() {
        ToolPlex x = plex("b 2 a 1 b ");
        x.server(63, 7, 0);
        x.server(63, 7, 2);
        x.server(63, 7, 1);
        x.open(0, 0);
        due(items(x, 0, ask(x, 3, COMPLETION, 0, 10)),
                List.of(at(0, 0, 6, 1), at(0, 0, 2, 1), at(0, 0, 4, 1), at(0, 0, 0, 1)));
        // none at all; none of the lower ones
        due(x.standing(0, ask(x, 3, COMPLETION, 0, 1)), 10 * 2 + 1);
        ToolPlex y = plex("ab 12");
        y.server(63, 7, 0);
        y.server(63, 7, 1);
        y.open(0, 0);
        due(items(y, 0, ask(y, 2, COMPLETION, 0, 2)), List.of(at(0, 0, 3, 2)));
        due(items(y, 0, ask(y, 2, COMPLETION, 0, 5)), List.of(at(0, 0, 0, 2)));
        y.crash(1);
        due(y.standing(0, ask(y, 1, COMPLETION, 0, 2)), 1);
    }

    @Sentence("of 1, 4 and 5 the items of the lowest server that has some")
    static void lowestServer() {
        ToolPlex x = plex("ab 12");
        x.server(63, 7, 0);
        x.server(63, 7, 1);
        x.server(63, 7, 2);
        x.open(0, 0);
        for (int kind : new int[] {HOVER, RENAME}) {
            due(items(x, 0, ask(x, 3, kind, 0, 0)), List.of(at(0, 0, 0, 2)));
            due(items(x, 0, ask(x, 3, kind, 0, 5)), List.of(at(0, 0, 3, 2)));
        }
        due(items(x, 0, ask(x, 3, EXTRACT, 0, 0)), List.of(at(0, 0, 0, 5)));
        ToolPlex none = plex(" ");
        none.server(63, 7, 0);
        none.server(63, 7, 1);
        none.open(0, 0);
        due(none.standing(0, ask(none, 2, HOVER, 0, 0)), 1);
        due(none.standing(0, ask(none, 2, RENAME, 0, 0)), 1);
        // of the lowest one alone: its number counts
        ToolPlex y = plex("a a1");
        y.server(63, 7, 0);
        y.server(63, 7, 2);
        y.open(0, 0);
        int hover = ask(y, 2, HOVER, 0, 0);
        due(List.of(y.standing(0, hover), y.value(0, hover, 0)), List.of(11, 2));
    }

    /** Two servers of the style 0: server 0 answers for the version 1, server 1 for the version that a change makes. */
    private static List<Integer> mergedOf(int kind, String text, int at, int to, int code) {
        ToolPlex x = plex(text);
        x.server(63, 7, 0);
        x.server(63, 7, 0);
        x.open(0, 0);
        x.request(0, kind, 0, 0, 0, 0);
        x.deliverAll();
        x.answer(0, 0);
        x.change(0, 0, 0, at, 0, to, code);
        x.deliverAll();
        x.answer(1, 0);
        x.deliverAll();
        return items(x, 0, 0);
    }

    @Sentence("of 2, each span once, in order by starts, then ends")
    static void mergedDefinitions() {
        due(mergedOf(DEFINITION, "a", 1, 1, -1), List.of(at(0, 0, 0, 1)));
        due(mergedOf(DEFINITION, "a", 1, 1, 'b'), List.of(at(0, 0, 0, 1), at(0, 0, 0, 2)));
        due(mergedOf(DEFINITION, "ab", 1, 2, -1), List.of(at(0, 0, 0, 1)));
        // the place moves behind what is put in: the run there begins earlier, with the same end
        due(mergedOf(DEFINITION, "a", 0, 0, 'b'), List.of(at(0, 0, 0, 2), at(0, 0, 1, 1)));
        due(mergedOf(DEFINITION, "ab", 0, 1, -1), List.of(at(0, 0, 0, 1)));
        due(mergedOf(DEFINITION, "a", 0, 1, -1), List.of());
        // one within the other: the start goes first
        ToolPlex x = plex("a");
        x.server(63, 7, 0);
        x.server(63, 7, 0);
        x.open(0, 0);
        for (int last = 0; last < 2; last++) {
            x.request(0, DEFINITION, 0, 0, 1, 0);
            x.deliverAll();
            x.answer(last, 0);
            x.change(0, 0, 0, 1 + 2 * last, 0, 1 + 2 * last, 'c');
            x.change(0, 0, 0, 0, 0, 0, 'b');
            x.deliverAll();
            x.answer(1 - last, 0);
            x.deliverAll();
        }
        due(text(x, 0, 0), "bbacc");
        due(items(x, 0, 0), List.of(at(0, 0, 1, 3), at(0, 0, 2, 1)));
        due(items(x, 0, 1), List.of(at(0, 0, 0, 5), at(0, 0, 1, 3)));
    }

    @Sentence("of 3, by rising servers, all tokens that have no unit in common with one that was taken ahead, in order by"
            + " starts")
    static void mergedTokens() {
        // just one unit in common, at either end: left out
        due(mergedOf(TOKENS, "a", 1, 1, 'b'), List.of(at(0, 0, 0, 1)));
        due(mergedOf(TOKENS, "a", 0, 0, 'b'), List.of(at(0, 0, 1, 1)));
        due(mergedOf(TOKENS, "b", 0, 0, 'a'), List.of(at(0, 0, 1, 1)));
        // of two runs that become one the tokens of the lower server stay, and that one is left out
        due(mergedOf(TOKENS, "a b", 1, 2, -1), List.of(at(0, 0, 0, 1), at(0, 0, 1, 1)));
        // what was lost leaves room
        due(mergedOf(TOKENS, "ab c", 1, 1, ' '), List.of(at(0, 0, 0, 1), at(0, 0, 2, 1), at(0, 0, 4, 1)));
        // touching, but without a unit in common: all are taken, in order by starts
        ToolPlex x = plex("1a2b");
        x.server(63, 7, 0);
        x.server(63, 7, 1);
        x.open(0, 0);
        int tokens = ask(x, 2, TOKENS, 0, 0);
        due(items(x, 0, tokens), List.of(at(0, 0, 0, 1), at(0, 0, 1, 1), at(0, 0, 2, 1), at(0, 0, 3, 1)));
        due(values(x, 0, tokens), List.of(1, 0, 1, 0));
        due(tokens(x, 0, tokens), List.of(0, 0, 1, 1, 0, 1, 1, 0, 0, 1, 1, 1, 0, 1, 1, 0));
        // the most tokens: 50 of each server
        ToolPlex y = plex("a1".repeat(50));
        y.server(63, 7, 0);
        y.server(63, 7, 1);
        y.server(63, 7, 2);
        y.open(0, 0);
        due(y.standing(0, ask(y, 3, TOKENS, 0, 0)), 1001);
        due(items(y, 0, 0).get(99), at(0, 0, 99, 1));
    }

    @Sentence("when all have, the answers are merged (if just one of them has items, whichever it is)")
    static void justOneHasItems() {
        for (int has = 0; has < 3; has++) {
            for (int kind = 0; kind < 5; kind++) {
                ToolPlex x = plex("ab");
                for (int s = 0; s < 3; s++) {
                    x.server(63, 7, s == has ? 0 : 1);
                }
                x.open(0, 0);
                due(items(x, 0, ask(x, 3, kind, 0, 1)), List.of(at(0, 0, 0, 2)));
            }
            // for 5 the style does not matter: the others have crashed
            ToolPlex x = plex("ab");
            for (int s = 0; s < 3; s++) {
                x.server(63, 7, 0);
            }
            x.open(0, 0);
            x.request(0, EXTRACT, 0, 0, 0, Z);
            x.deliverAll();
            x.answer(has, 0);
            x.crash((has + 1) % 3);
            x.crash((has + 2) % 3);
            x.deliverAll();
            due(items(x, 0, 0), List.of(at(0, 0, 0, 2)));
        }
    }

    @Sentence("If the document is not open then, or was opened with a later version than that for which was asked, the"
            + " answer is STALE, whatever the kind.")
    static void notOpenOrLater() {
        for (int kind = 0; kind < 6; kind++) {
            // not open in the multiplexer, while the editor has it open again
            ToolPlex x = opened(0, "ab a");
            x.request(0, kind, 0, 0, 1, Z);
            x.deliverAll();
            x.answer(0, 0);
            x.close(0, 0);
            x.open(0, 0);
            x.deliver(0);
            due(x.version(2, 0), -1);
            x.deliver(5);
            x.deliver(8);
            due(x.standing(0, 0), 3);
            // opened by the other editor with a later version
            ToolPlex y = opened(0, "ab a");
            y.request(0, kind, 0, 0, 1, Z);
            y.close(0, 0);
            y.open(1, 0);
            y.deliver(0);
            y.deliver(2);
            y.answer(0, 0);
            y.deliver(1);
            y.deliver(5);
            due(y.version(2, 0), 2);
            y.deliver(8);
            due(y.standing(0, 0), 3);
            // asked for just the version with which it was opened, and changed behind that
            ToolPlex z = opened(0, "ab a");
            z.request(0, kind, 0, 0, 1, Z);
            z.deliverAll();
            z.answer(0, 0);
            z.deliverAll();
            due(z.standing(0, 0) % 10, 1);
            // the request comes to a document that was opened with a later version
            ToolPlex w = plex("ab a");
            w.server(63, 7, 0);
            w.open(0, 0);
            w.request(0, kind, 0, 0, 1, Z);
            w.close(0, 0);
            w.open(1, 0);
            w.deliver(1);
            w.deliver(0);
            w.deliver(0);
            due(w.id(0, 0, 0), 0);
            answers(w, 1);
            due(w.standing(0, 0), 3);
        }
    }

    // ---- answers in editors

    @Sentence("When an editor takes an answer, and waits for it: with NOBODY, CANCELLED or STALE it is that.")
    static void takenAsItIs() {
        // also when the document has been changed, or is closed, by then
        for (int close = 0; close < 2; close++) {
            ToolPlex x = plex("a");
            x.server(61, 7, 0);
            x.open(0, 0);
            x.deliverAll();
            x.request(0, HOVER, 0, 0, 0, 0);
            x.request(0, COMPLETION, 0, 0, 0, 0);
            x.request(0, RENAME, 0, 0, 0, Z);
            x.cancel(0, 1);
            x.deliver(0);
            x.deliver(0);
            x.deliver(0);
            x.deliver(0);
            x.change(0, 0, 0, 0, 0, 0, 'b');
            x.deliver(0);
            if (close == 1) {
                x.close(0, 0);
            }
            due(List.of(x.standing(0, 0), x.standing(0, 1), x.standing(0, 2)), List.of(0, 0, 0));
            answers(x, 1);
            due(List.of(x.standing(0, 0), x.standing(0, 1), x.standing(0, 2)), List.of(4, 2, 3));
        }
    }

    @Sentence("for the kinds 0, 1, 4 and 5, it is STALE if the document is not open in the editor with just that version")
    static void justThatVersion() {
        for (int kind : new int[] {COMPLETION, HOVER, RENAME, EXTRACT}) {
            for (int what = 0; what < 4; what++) {
                ToolPlex x = opened(0, "ab a");
                x.request(0, kind, 0, 0, 1, Z);
                x.deliverAll();
                x.answer(0, 0);
                x.deliver(5);
                if (what == 1) {
                    x.change(0, 0, 0, 0, 0, 0, -1);
                } else if (what > 1) {
                    x.close(0, 0);
                }
                if (what == 3) {
                    x.open(0, 0);
                }
                x.deliver(8);
                due(x.standing(0, 0) % 10, what == 0 ? ToolPlex.SHOWN : ToolPlex.STALE);
            }
        }
    }

    @Sentence("or, for 4, one of those that have items is not open there with just its version; else it is SHOWN")
    static void otherDocumentsOfRename() {
        for (int what = 0; what < 6; what++) {
            ToolPlex x = renaming(1);
            x.file('r', 0);
            x.open(0, 2);
            x.deliver(5);
            if (what == 1) {
                x.change(0, 1, 0, 0, 0, 0, -1);
            } else if (what == 2 || what == 3) {
                x.close(0, 1);
            } else if (what == 4) {
                x.change(0, 2, 0, 0, 0, 0, 'c');
            } else if (what == 5) {
                x.close(0, 2);
            }
            if (what == 3) {
                x.open(0, 1);
            }
            x.deliver(8);
            due(x.standing(0, 0), what == 0 || what > 3 ? 21 : 3);
        }
        // one with a lower number than that for which was asked
        for (int what = 0; what < 2; what++) {
            ToolPlex x = renamingUpper();
            x.answer(0, 0);
            x.deliver(5);
            if (what == 0) {
                x.change(0, 0, 0, 0, 0, 0, -1);
            } else {
                x.close(0, 0);
            }
            x.deliver(8);
            due(x.standing(0, 0), 3);
        }
        // open in the other editor
        ToolPlex y = plex("c", "c");
        y.server(63, 7, 0);
        y.open(0, 0);
        y.open(1, 1);
        due(y.standing(0, ask(y, 1, RENAME, 0, 0)), 3);
    }

    @Sentence("For 2 and 3 it is STALE if the document is not open there, or was opened with a later version; otherwise the"
            + " items are moved along to the editor's version, and it is SHOWN.")
    static void openedLater() {
        for (int kind : new int[] {DEFINITION, TOKENS}) {
            for (int what = 0; what < 4; what++) {
                ToolPlex x = opened(0, "ab");
                x.request(0, kind, 0, 0, 1, Z);
                x.deliverAll();
                x.answer(0, 0);
                x.deliver(5);
                if (what == 1) {
                    x.change(0, 0, 0, 0, 0, 0, ' ');
                } else if (what > 1) {
                    x.close(0, 0);
                }
                if (what == 3) {
                    x.open(0, 0);
                }
                x.deliver(8);
                due(x.standing(0, 0), what < 2 ? 11 : 3);
                due(items(x, 0, 0), what < 2 ? List.of(at(0, 0, what, 2)) : List.of());
            }
        }
    }

    @Sentence("Faults of a document are moved along likewise and shown in place of those before; they are dropped if it is"
            + " not open there, or was opened with a later version.")
    static void faultsTaken() {
        for (int what = 0; what < 4; what++) {
            ToolPlex x = opened(0, "ab ab");
            x.tellFaults(0, 0);
            x.deliver(5);
            if (what == 1) {
                x.change(0, 0, 0, 0, 0, 0, ' ');
            } else if (what > 1) {
                x.close(0, 0);
            }
            if (what == 3) {
                x.open(0, 0);
            }
            due(x.deliver(8), 6);
            due(shownFaults(x, 0, 0), what < 2 ? List.of(at(0, 0, 3 + what, 2)) : List.of());
        }
        // none in place of some
        ToolPlex x = opened(0, "ab ab");
        x.tellFaults(0, 0);
        x.deliverAll();
        x.change(0, 0, 0, 0, 0, 1, -1);
        due(x.faults(0, 0), 1);
        x.deliverAll();
        due(x.tellFaults(0, 0), 0);
        due(x.faults(0, 0), 1);
        x.deliverAll();
        due(x.faults(0, 0), 0);
    }

    /** Files "p", "q" and "r", with "c" in two: of each kind an answer for the file 0 is SHOWN to the editor 0. */
    private static ToolPlex shown() {
        ToolPlex x = new ToolPlex();
        for (int f = 0; f < 3; f++) {
            x.file('p' + f, 0);
            x.store(f, f < 2 ? 'c' : 'd');
        }
        x.server(63, 7, 0);
        for (int f = 0; f < 3; f++) {
            x.open(0, f);
        }
        for (int kind = 0; kind < 6; kind++) {
            x.request(0, kind, 0, 0, 0, Z);
        }
        answers(x, 1);
        due(standings(x), List.of(11, 11, 11, 11, 21, 11));
        return x;
    }

    private static List<Integer> standings(ToolPlex x) {
        List<Integer> all = new ArrayList<>();
        for (int r = 0; r < 6; r++) {
            all.add(x.standing(0, r));
        }
        return all;
    }

    @Sentence("When an editor changes a document, items that are SHOWN for it of 2 and 3, and faults, are moved along;"
            + " answers of 0, 1, 4 and 5 that have items in it, or were asked for it, are STALE then.")
    static void changedWhileShown() {
        ToolPlex x = shown();
        x.change(0, 0, 0, 0, 0, 0, -1);
        due(standings(x), List.of(3, 3, 11, 11, 3, 3));
        // a document that has items of 4, but was not asked for
        ToolPlex y = shown();
        y.change(0, 1, 0, 0, 0, 0, -1);
        due(standings(y), List.of(11, 11, 11, 11, 3, 11));
        ToolPlex u = renamingUpper();
        answers(u, 1);
        due(u.standing(0, 0), 21);
        u.change(0, 0, 0, 1, 0, 1, ' ');
        due(u.standing(0, 0), 3);
        // a document without items
        ToolPlex z = shown();
        z.change(0, 2, 0, 0, 0, 0, ' ');
        due(standings(z), List.of(11, 11, 11, 11, 21, 11));
        due(z.item(0, 2, 0), at(0, 0, 0, 1));
        // asked for it, without items; all items lost, and SHOWN with none
        ToolPlex w = opened(0, " ");
        due(w.standing(0, ask(w, 1, HOVER, 0, 0)), 1);
        due(w.standing(0, ask(w, 1, TOKENS, 0, 0)), 1);
        w.change(0, 0, 0, 0, 0, 0, -1);
        due(List.of(w.standing(0, 0), w.standing(0, 1)), List.of(3, 1));
        ToolPlex v = shown();
        v.change(0, 0, 0, 0, 0, 1, -1);
        due(standings(v), List.of(3, 3, 1, 1, 3, 3));
    }

    @Sentence("When it closes a document, all answers that are SHOWN for it, and those of 4 with items in it, are STALE,"
            + " and its faults are gone.")
    static void closedWhileShown() {
        ToolPlex x = shown();
        x.close(0, 0);
        due(standings(x), List.of(3, 3, 3, 3, 3, 3));
        ToolPlex y = shown();
        y.close(0, 1);
        due(standings(y), List.of(11, 11, 11, 11, 3, 11));
        ToolPlex u = renamingUpper();
        answers(u, 1);
        u.close(0, 0);
        due(u.standing(0, 0), 3);
        // those without items, too; but not those for another document
        for (int kind = 0; kind < 6; kind++) {
            ToolPlex v = plex("", "");
            v.server(63, 7, 0);
            v.open(0, 0);
            v.open(0, 1);
            due(v.standing(0, ask(v, 1, kind, 0, 0)), 1);
            v.close(0, 1);
            due(v.standing(0, 0), 1);
            v.close(0, 0);
            due(v.standing(0, 0), 3);
        }
        ToolPlex z = shown();
        z.close(0, 2);
        due(standings(z), List.of(11, 11, 11, 11, 21, 11));
        // those that wait go on waiting; what was cancelled or had nobody stays that
        ToolPlex w = plex("a a");
        w.server(62, 7, 0);
        w.open(0, 0);
        w.deliverAll();
        w.tellFaults(0, 0);
        w.request(0, COMPLETION, 0, 0, 0, 0);
        w.request(0, HOVER, 0, 0, 0, 0);
        w.request(0, HOVER, 0, 0, 0, 0);
        w.deliverAll();
        due(w.faults(0, 0), 1);
        w.close(0, 0);
        due(w.faults(0, 0), 0);
        due(List.of(w.standing(0, 0), w.standing(0, 1), w.standing(0, 2)), List.of(4, 2, 0));
    }

    // ---- edits

    @Sentence("An edit, that is an answer of 4 or 5, can be applied once, as long as it is SHOWN.")
    static void appliedOnce() {
        for (int kind : new int[] {RENAME, EXTRACT}) {
            ToolPlex x = opened(0, "c");
            x.request(0, kind, 0, 0, 0, Z);
            refused(x, NOT, () -> x.apply(0, 0));
            answers(x, 1);
            due(x.apply(0, 0), 1);
            due(x.standing(0, 0), 3);
            refused(x, NOT, () -> x.apply(0, 0));
            // not when the document was changed since
            ToolPlex y = opened(0, "c");
            int edit = ask(y, 1, kind, 0, 0);
            y.change(0, 0, 0, 0, 0, 0, -1);
            refused(y, NOT, () -> y.apply(0, edit));
        }
    }

    @Sentence("file by file, by rising numbers: the file is renamed, if there is such an item, to the letter that was asked"
            + " with; then its spans are replaced by that letter, the last one first, each by a change")
    static void lastSpanFirst() {
        ToolPlex x = plex("b bb b\nb", "b");
        x.server(63, 7, 0);
        x.open(0, 0);
        x.open(0, 1);
        int edit = ask(x, 1, RENAME, 0, 0);
        due(x.apply(0, edit), 4);
        due(List.of(x.name(0), x.name(1)), List.of('a', 'z'));
        due(List.of(x.version(0, 0), x.version(0, 1), x.waiting(0)), List.of(4, 2, 4));
        // the last span first, and the lower file first
        x.deliver(0);
        due(text(x, 2, 0), "b bb b\nz");
        x.deliver(0);
        due(text(x, 2, 0), "b bb z\nz");
        x.deliver(0);
        due(List.of(text(x, 2, 0), text(x, 2, 1)), List.of("z bb z\nz", "b"));
        x.deliver(0);
        due(List.of(text(x, 2, 0), text(x, 2, 1)), List.of("z bb z\nz", "z"));
        x.deliverAll();
        due(List.of(text(x, 3, 0), text(x, 3, 1)), List.of("z bb z\nz", "z"));
        // spans longer than the letter: all places ahead of them stay
        ToolPlex y = opened(0, "ab c ab\nab");
        due(y.apply(0, ask(y, 1, RENAME, 0, 0)), 3);
        due(text(y, 0, 0), "z c z\nz");
        // the most spans of a text, all at once
        ToolPlex z = opened(2, "a1".repeat(50));
        due(z.apply(0, ask(z, 1, RENAME, 0, 0)), 50);
        due(text(z, 0, 0), "z1".repeat(50));
        due(z.deliverAll(), 100);
        due(z.version(3, 0), 51);
    }

    @Sentence("a file is added, with that letter as its name, the language of the document, and the text of the span stored;"
            + " then the span is taken out by a change")
    static void extractedWhole() {
        ToolPlex x = opened(0, "1".repeat(100));
        int edit = ask(x, 1, EXTRACT, 0, 100);
        due(x.apply(0, edit), 1);
        due(List.of(text(x, 0, 0), x.version(0, 0), x.name(1)), List.of("", 2, 'z'));
        refused(x, NOT, () -> x.store(1, 'a'));
        due(x.open(1, 1), 1);
        due(text(x, 1, 1), "1".repeat(100));
        // the last file that there is room for
        ToolPlex y = plex("a\nb", "", "", "", "");
        y.server(63, 7, 0);
        y.open(0, 0);
        due(y.apply(0, ask(y, 1, EXTRACT, 1, 0)), 1);
        due(List.of(y.name(5), text(y, 0, 0)), List.of('z', "a\n"));
        y.request(0, EXTRACT, 0, 0, 0, 'y');
        answers(y, 1);
        refused(y, NOT, () -> y.apply(0, 1));
        // a pair is taken out whole, and the end of the line stays
        ToolPlex z = opened(0, "\n\uD83D\uDE00\n");
        due(z.apply(0, ask(z, 1, EXTRACT, 1, 0)), 1);
        due(text(z, 0, 0), "\n\n");
        due(z.store(1, 'a'), 3);
    }

    @Sentence("Either all of it is possible, or nothing is done.")
    static void allOrNothing() {
        // spans in the file 0, and the file 1 to be renamed to the name of the file 2
        ToolPlex x = plex("b b", "b", "");
        x.server(63, 7, 0);
        x.open(0, 0);
        x.open(0, 1);
        x.request(0, RENAME, 0, 0, 0, 'c');
        answers(x, 1);
        due(x.standing(0, 0), 41);
        refused(x, NOT, () -> x.apply(0, 0));
        due(List.of(text(x, 0, 0), x.version(0, 0), x.waiting(0)), List.of("b b", 1, 0));
        // it is still SHOWN, and can be applied when the name is free
        x.open(0, 2);
        x.change(0, 2, 0, 0, 0, 0, 'c');
        x.request(0, RENAME, 2, 0, 0, 'd');
        answers(x, 1);
        due(x.apply(0, 1), 1);
        due(List.of(x.name(2), x.standing(0, 0)), List.of('d', 41));
        due(x.apply(0, 0), 3);
        due(List.of(x.name(1), text(x, 0, 0)), List.of('c', "c c"));
    }

    @Sentence("What was SHOWN of other answers becomes as told for changes, and the edit itself is STALE then.")
    static void othersWhenApplied() {
        ToolPlex x = shown();
        due(x.apply(0, 5), 1);
        due(standings(x), List.of(3, 3, 1, 1, 3, 3));
        ToolPlex y = shown();
        due(y.apply(0, 4), 2);
        due(standings(y), List.of(3, 3, 1, 1, 3, 3));
        // an edit in another document: what was SHOWN for the file 0 stays
        ToolPlex z = shown();
        z.request(0, RENAME, 2, 0, 0, 'y');
        z.request(0, EXTRACT, 2, 0, 0, 'x');
        answers(z, 1);
        due(z.apply(0, 6), 1);
        due(standings(z), List.of(11, 11, 11, 11, 21, 11));
        due(List.of(z.standing(0, 6), z.standing(0, 7)), List.of(3, 3));
    }

    // ---- channels

    @Sentence("In each, messages are delivered in the order in which they were sent.")
    static void orderInChannels() {
        ToolPlex x = opened(0, "a a");
        x.request(0, TOKENS, 0, 0, 0, 0);
        x.change(0, 0, 0, 0, 0, 0, 'b');
        x.request(0, HOVER, 0, 0, 0, 0);
        x.cancel(0, 0);
        x.close(0, 0);
        due(x.waiting(0), 5);
        due(List.of(x.deliver(0), x.deliver(0), x.deliver(0), x.deliver(0), x.deliver(0), x.deliver(0)),
                List.of(3, 1, 3, 4, 2, -1));
        due(List.of(x.deliver(2), x.deliver(2), x.deliver(2)), List.of(3, 1, 3));
        x.tellFaults(0, 0);
        x.answer(0, 1);
        x.tellFaults(0, 0);
        due(List.of(x.deliver(2), x.deliver(2), x.deliver(2)), List.of(4, 2, -1));
        due(List.of(x.deliver(5), x.deliver(5), x.deliver(5), x.deliver(5)), List.of(6, 5, 6, -1));
    }

    @Sentence("When a server crashes, what is in its channels, both, is lost, with its copies and requests")
    static void lostByCrash() {
        ToolPlex x = plex("a a");
        x.server(63, 7, 0);
        x.server(63, 7, 0);
        x.open(0, 0);
        x.deliverAll();
        x.request(0, TOKENS, 0, 0, 0, 0);
        x.request(0, HOVER, 0, 0, 0, 0);
        x.deliverAll();
        x.answer(0, 0);
        x.tellFaults(0, 0);
        x.tellFaults(1, 0);
        x.change(0, 0, 0, 0, 0, 0, 'b');
        x.deliver(0);
        due(List.of(x.waiting(2), x.waiting(3), x.waiting(5), x.waiting(6)), List.of(1, 1, 2, 1));
        due(x.crash(0), 3);
        due(List.of(x.waiting(2), x.waiting(3), x.waiting(5), x.waiting(6)), List.of(0, 1, 0, 1));
        due(List.of(x.version(3, 0), x.version(4, 0)), List.of(-1, 1));
        refused(x, OUT, () -> x.answer(0, 0));
        refused(x, OUT, () -> x.unit(3, 0, 0));
        refused(x, NOT, () -> x.tellFaults(0, 0));
        // what it told before, and the multiplexer keeps, is not in its channels
        ToolPlex y = keptFault();
        due(y.crash(0), 0);
        due(sentAgain(y, 0), List.of(at(0, 0, 3, 2)));
    }

    @Sentence("it counts as having answered, without items, all that the multiplexer waits for from it, in the order in"
            + " which these requests came")
    static void answeredByCrash() {
        ToolPlex x = plex("a a");
        x.server(63, 7, 0);
        x.server(11, 7, 0);
        x.open(0, 0);
        x.deliverAll();
        int[] kinds = {TOKENS, HOVER, RENAME, COMPLETION, EXTRACT};
        for (int kind : kinds) {
            x.request(0, kind, 0, 0, 1, Z);
        }
        x.deliverAll();
        // the server 1 has answered the hover alone; the tokens and the completion wait for both
        x.answer(1, 1);
        x.deliverAll();
        due(x.crash(0), 0);
        due(x.waiting(8), 3);
        x.deliver(8);
        due(List.of(x.standing(0, 0), x.standing(0, 1), x.standing(0, 2), x.standing(0, 3), x.standing(0, 4)),
                List.of(0, 11, 0, 0, 0));
        x.deliver(8);
        due(List.of(x.standing(0, 2), x.standing(0, 4)), List.of(1, 0));
        x.deliver(8);
        due(x.standing(0, 4), 1);
        due(x.crash(1), 0);
        due(x.waiting(8), 2);
        x.deliver(8);
        due(List.of(x.standing(0, 0), x.standing(0, 3)), List.of(1, 0));
        x.deliver(8);
        due(x.standing(0, 3), 1);
        // what it had answered ahead of the crash, and had come, counts with its items
        ToolPlex y = plex("a");
        y.server(63, 7, 0);
        y.server(63, 7, 0);
        y.open(0, 0);
        y.request(0, HOVER, 0, 0, 0, 0);
        y.deliverAll();
        y.answer(0, 0);
        y.deliver(5);
        y.crash(0);
        due(y.waiting(8), 0);
        y.crash(1);
        y.deliverAll();
        due(y.standing(0, 0), 11);
        // after the crash a request that is merged is STALE as ever, if the copy has another version
        ToolPlex z = opened(0, "a");
        z.request(0, HOVER, 0, 0, 0, 0);
        z.request(0, TOKENS, 0, 0, 0, 0);
        z.change(0, 0, 0, 0, 0, 0, -1);
        z.deliverAll();
        z.crash(0);
        z.deliverAll();
        due(List.of(z.standing(0, 0), z.standing(0, 1)), List.of(3, 1));
    }

    @Sentence("When it is started again, the multiplexer sends it OPEN for all documents of which it has copies and whose"
            + " language it deals with, by rising files, with the versions and texts of its copies.")
    static void startedAgain() {
        ToolPlex x = new ToolPlex();
        for (int f = 0; f < 6; f++) {
            x.file('a' + f, f % 3);
        }
        x.server(63, 7, 0);
        x.server(63, 3, 0);
        // no documents
        x.crash(0);
        due(x.start(0), 0);
        for (int f = 5; f >= 0; f--) {
            x.open(f % 2, f);
        }
        x.deliverAll();
        x.change(1, 1, 0, 0, 0, 0, 'x');
        x.close(0, 4);
        x.deliverAll();
        due(List.of(x.crash(0), x.crash(1)), List.of(0, 0));
        // what has not come to the multiplexer does not count
        x.change(1, 1, 0, 0, 0, 0, 'y');
        x.close(1, 5);
        x.open(1, 4);
        due(x.start(0), 5);
        due(x.start(1), 3);
        due(List.of(x.waiting(2), x.waiting(3)), List.of(5, 3));
        int[] order = {0, 1, 2, 3, 5};
        for (int i = 0; i < 5; i++) {
            due(x.version(3, order[i]), -1);
            due(x.deliver(2), 0);
            due(x.version(3, order[i]), order[i] == 1 ? 2 : 1);
        }
        due(text(x, 3, 1), "x");
        x.deliver(3);
        x.deliver(3);
        x.deliver(3);
        due(List.of(x.version(4, 0), x.version(4, 1), x.version(4, 2), x.version(4, 3), x.version(4, 5)),
                List.of(1, 2, -1, 1, -1));
        x.deliverAll();
        due(List.of(text(x, 3, 1), text(x, 4, 1)), List.of("yx", "yx"));
        due(List.of(x.version(3, 4), x.version(3, 5)), List.of(2, -1));
        // all six; a request that comes behind them finds its copy
        ToolPlex y = plex("a", "", "", "", "", "");
        y.server(63, 7, 0);
        for (int f = 0; f < 6; f++) {
            y.open(0, f);
        }
        y.deliverAll();
        y.crash(0);
        due(y.start(0), 6);
        due(y.standing(0, ask(y, 1, HOVER, 0, 0)), 11);
    }
}
