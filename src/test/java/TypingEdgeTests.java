import java.util.NoSuchElementException;

/**
 * The sentences on typing and clipboards (promises 15 and 21 to 26) that name an edge: the first and
 * the last letter, 20 keys that wait, the caret that goes from the last cell to the first one, closed
 * and silent windows, guesses beyond the screen, rights of all sessions that a content has passed.
 */
public final class TypingEdgeTests {
    private static final Class<IllegalArgumentException> RANGE = IllegalArgumentException.class;
    private static final Class<IllegalStateException> STATE = IllegalStateException.class;
    private static final Class<UnsupportedOperationException> DENIED =
            UnsupportedOperationException.class;
    private static final Class<NoSuchElementException> NONE = NoSuchElementException.class;
    private static final Class<ArithmeticException> NO_SHARE = ArithmeticException.class;

    public static void main(String[] args) {
        lettersFromAToZ();
        keysUpTo20();
        keysOfAllClientsCount();
        noWindowIsShown();
        windowBeyondTheScreen();
        caretOfOneCell();
        caretOf96Cells();
        caretRowByRow();
        caretOfSilentWindow();
        caretStaysWithItsWindow();
        keysOfClosedWindows();
        keysOfHiddenWindows();
        keysBehindTheLine();
        guessOfTheNextCell();
        guessGoesRound();
        guessMovesWithItsWindow();
        guessBeyondEachEdge();
        guessOfClosedWindow();
        guessOfHiddenAndCovered();
        lastGuessOfSeveral();
        guessesOfOthersAreNotSeen();
        rightBehindItsKey();
        rightThoughCovered();
        wrongBeyondTheScreen();
        wrongWhenClosed();
        sharesOfAll();
        contentsFrom0To9999();
        noRightsAtFirst();
        rightsOfEachKind();
        pasteTakesThePlaceOfAnother();
        pasteRoundAllSessions();
        pasteBackToItsFirst();
        wayOfEachClipboard();
        copyBeginsANewWay();
        Check.end();
    }

    private static void lettersFromAToZ() {
        Remotepane x = Scene.looked(0);
        for (char letter = 'a'; letter <= 'z'; letter++) {
            int place = letter - 'a' + 1;
            x.type(0, letter);
            Check.same("15 guess of " + letter, x.seen(0, (place - 1) % 12, (place - 1) / 12), 100 + place);
            x.tick(1);
            Check.same("21 key of " + letter, x.screen(0, (place - 1) % 12, (place - 1) / 12), 100 + place);
        }
        Check.same("21 z is the last", x.screen(0, 1, 2), 126);
        char[] wrong = {'a' - 1, 'z' + 1, 'A', 'Z', 0, 1, 26, 32, 223, 228, 65535};
        for (char letter : wrong) {
            Check.fails("21 sign " + (int) letter, RANGE, () -> x.type(0, letter));
            Check.same("21 it does not wait", x.guesses(0), 0);
        }
    }

    private static void keysUpTo20() {
        Remotepane x = Scene.looked(0);
        for (int count = 1; count <= 20; count++) {
            Check.same("21 so many wait", x.type(0, 'k'), count);
        }
        for (int again = 0; again < 3; again++) {
            Check.fails("21 20 are the most", STATE, () -> x.type(0, 'k'));
        }
        Check.same("22 20 guesses", x.guesses(0), 20);
        x.tick(1);
        Check.same("22 none", x.guesses(0), 0);
        Check.same("21 the 20th is done", x.screen(0, 7, 1), 111);
        Check.same("21 no 21st", x.screen(0, 8, 1), 0);
        for (int count = 1; count <= 20; count++) {
            Check.same("21 so many again", x.type(0, 'l'), count);
        }
        Check.fails("21 20 are the most again", STATE, () -> x.type(0, 'k'));
    }

    private static void keysOfAllClientsCount() {
        Remotepane x = Scene.sessions(2);
        x.openWindow(0, 0, 0, 3, 3);
        x.openWindow(0, 3, 0, 3, 3);
        x.openWindow(1, 0, 0, 3, 3);
        x.join(0, 0);
        x.join(0, 0);
        x.join(1, 0);
        for (int count = 1; count <= 20; count++) {
            x.raise(0, count % 2);
            Check.same("21 of all clients and windows", x.type(count % 3 == 0 ? 1 : 0, 'a'), count);
        }
        Check.fails("21 for the one", STATE, () -> x.type(0, 'a'));
        Check.fails("21 and the other", STATE, () -> x.type(1, 'a'));
        Check.same("21 not for another session", x.type(2, 'a'), 1);
        Check.same("22 14 of one", x.guesses(0), 14);
        Check.same("22 6 of the other", x.guesses(1), 6);
        x.closeWindow(0, 0);
        Check.fails("21 keys of a closed window wait too", STATE, () -> x.type(0, 'a'));
        x.tick(1);
        Check.same("21 none waits", x.type(0, 'a'), 1);
    }

    private static void noWindowIsShown() {
        Remotepane x = Scene.sessions(1);
        x.join(0, 0);
        Check.fails("21 none was opened", DENIED, () -> x.type(0, 'a'));
        x.openWindow(0, 0, 0, 1, 1);
        x.openWindow(0, 0, 0, 1, 1);
        x.show(0, 0, false);
        Check.same("21 one is shown", x.type(0, 'a'), 1);
        x.show(0, 1, false);
        Check.fails("21 both are hidden", DENIED, () -> x.type(0, 'a'));
        x.closeWindow(0, 1);
        Check.fails("21 one is closed, one is hidden", DENIED, () -> x.type(0, 'a'));
        x.closeWindow(0, 0);
        Check.fails("21 both are closed", DENIED, () -> x.type(0, 'a'));
        Check.same("22 one guess", x.guesses(0), 1);
    }

    private static void windowBeyondTheScreen() {
        Remotepane x = Scene.looked(0);
        x.openWindow(0, -5, -5, 5, 5);
        Check.same("21 into the topmost, though none of it is seen", x.type(0, 'a'), 1);
        x.tick(1);
        Check.same("21 not into the one that is seen", x.screen(0, 0, 0), 0);
        Check.same("21 into its first cell", x.moveWindow(0, 1, 0, 0), 1);
        Check.same("21 into its first cell", x.screen(0, 0, 0), 101);
        Check.same("23 it was not right", x.rightShare(0), 0.0);
    }

    private static void caretOfOneCell() {
        Remotepane x = Scene.sessions(1);
        x.openWindow(0, 5, 5, 1, 1);
        x.join(0, 0);
        for (char letter = 'a'; letter <= 't'; letter++) {
            x.type(0, letter);
            Check.same("15 each guess is of the same cell", x.seen(0, 5, 5), 100 + letter - 'a' + 1);
        }
        x.tick(1);
        Check.same("21 the last one stays", x.screen(0, 5, 5), 120);
        Check.same("23 each was right ahead of the next one", x.rightShare(0), 1.0);
    }

    private static void caretOf96Cells() {
        Remotepane x = Scene.looked(0);
        for (int key = 0; key < 96; key++) {
            x.type(0, (char) ('a' + key % 26));
            if (key % 20 == 19) {
                x.tick(1);
            }
        }
        x.type(0, 'y');
        Check.same("15 the 97th is of the first cell", x.seen(0, 0, 0), 125);
        x.tick(1);
        Check.same("21 the 96th", x.screen(0, 11, 7), 100 + 95 % 26 + 1);
        Check.same("21 the 97th", x.screen(0, 0, 0), 125);
        Check.same("21 the second", x.screen(0, 1, 0), 102);
        Check.same("23 all were right", x.rightShare(0), 1.0);
    }

    private static void caretRowByRow() {
        Remotepane x = Scene.sessions(1);
        x.openWindow(0, 4, 3, 3, 2);
        x.join(0, 0);
        int[][] cells = {{4, 3}, {5, 3}, {6, 3}, {4, 4}, {5, 4}, {6, 4}, {4, 3}, {5, 3}};
        for (int i = 0; i < cells.length; i++) {
            x.type(0, (char) ('a' + i));
            x.tick(1);
            Check.same("21 key " + i, x.screen(0, cells[i][0], cells[i][1]), 101 + i);
        }
        Remotepane row = Scene.sessions(1);
        row.openWindow(0, 0, 0, 1, 3);
        row.join(0, 0);
        for (int i = 0; i < 4; i++) {
            row.type(0, (char) ('a' + i));
        }
        row.tick(1);
        Check.same("21 down a column", row.screen(0, 0, 1), 102);
        Check.same("21 to its end", row.screen(0, 0, 2), 103);
        Check.same("21 and to its first cell", row.screen(0, 0, 0), 104);
    }

    private static void caretOfSilentWindow() {
        Remotepane x = Scene.sessions(1);
        x.openWindow(0, 0, 0, 2, 1);
        x.mark(0, 0, false, true);
        x.join(0, 0);
        x.type(0, 'a');
        Check.same("15 the guess tells the letter", x.seen(0, 0, 0), 101);
        x.tick(1);
        Check.same("21 7 instead", x.screen(0, 0, 0), 7);
        Check.same("23 that is not the guess", x.rightShare(0), 0.0);
        x.type(0, 'z');
        x.tick(1);
        Check.same("21 the caret went on", x.screen(0, 1, 0), 7);
        x.mark(0, 0, true, false);
        x.type(0, 'z');
        x.tick(1);
        Check.same("21 and to the first cell, no longer silent", x.screen(0, 0, 0), 126);
        x.type(0, 'g');
        x.mark(0, 0, true, true);
        x.tick(1);
        Check.same("21 silent as the key is done", x.screen(0, 1, 0), 7);
        Check.same("23 one of four", x.rightShare(0), 0.25);
    }

    private static void caretStaysWithItsWindow() {
        Remotepane x = Scene.sessions(1);
        x.openWindow(0, 0, 0, 3, 1);
        x.openWindow(0, 0, 1, 3, 1);
        x.join(0, 0);
        x.type(0, 'a');
        x.type(0, 'b');
        x.tick(1);
        x.raise(0, 0);
        x.type(0, 'c');
        x.tick(1);
        Check.same("21 a caret of its own", x.screen(0, 0, 0), 103);
        x.draw(0, 1, 0, 0, 3, 1, 50);
        x.moveWindow(0, 1, 4, 4);
        x.show(0, 1, false);
        x.show(0, 1, true);
        x.raise(0, 1);
        x.type(0, 'd');
        x.tick(1);
        Check.same("21 drawing and moving leave it", x.screen(0, 6, 4), 104);
        Check.same("21 what was drawn stays", x.screen(0, 4, 4), 50);
    }

    private static void keysOfClosedWindows() {
        Remotepane x = Scene.sessions(1);
        Scene.window(x, 0, 0, 2, 1, 50);
        Scene.window(x, 0, 0, 2, 1, 51);
        x.join(0, 0);
        x.type(0, 'a');
        x.closeWindow(0, 1);
        Check.same("21 a key of the closed one and one of the other", x.type(0, 'b'), 2);
        x.tick(1);
        Check.same("21 it does nothing", x.screen(0, 1, 0), 50);
        Check.same("21 the other one is done", x.screen(0, 0, 0), 102);
        Check.same("22 both are gone", x.guesses(0), 0);
        Check.same("23 one of two", x.rightShare(0), 0.5);
        Remotepane y = Scene.looked(0);
        for (int i = 0; i < 20; i++) {
            y.type(0, 'a');
        }
        y.closeWindow(0, 0);
        y.tick(1);
        Check.same("22 all are gone", y.guesses(0), 0);
        Check.same("23 none was right", y.rightShare(0), 0.0);
        Check.same("10 nothing is there", y.screen(0, 0, 0), 0);
    }

    private static void keysOfHiddenWindows() {
        Remotepane x = Scene.sessions(1);
        Scene.window(x, 0, 0, 2, 1, 50);
        Scene.window(x, 0, 0, 2, 1, 51);
        x.join(0, 0);
        x.type(0, 'a');
        x.show(0, 1, false);
        x.type(0, 'b');
        x.tick(1);
        Check.same("21 into the shown one", x.screen(0, 0, 0), 102);
        x.show(0, 1, true);
        Check.same("21 and into the hidden one", x.screen(0, 0, 0), 101);
        Check.same("23 the first one was covered by nothing, but hidden", x.rightShare(0), 0.5);
    }

    private static void keysBehindTheLine() {
        Remotepane x = Scene.looked(0);
        x.type(0, 'a');
        Check.same("21 the line has nothing to carry yet", x.tick(1), 0);
        Check.same("16 the cell is behind now", x.behind(0), 1);
        Check.same("15 and is seen late", x.seen(0, 0, 0), 0);
        Check.same("19 carried in the next one", x.tick(1), 3);
        Check.same("15 now it is seen", x.seen(0, 0, 0), 101);
    }

    private static void guessOfTheNextCell() {
        Remotepane x = Scene.looked(0);
        x.join(0, 0);
        x.openWindow(0, 4, 4, 2, 2);
        x.type(0, 'a');
        x.type(1, 'b');
        x.raise(0, 0);
        x.type(0, 'c');
        x.raise(0, 1);
        x.type(0, 'd');
        Check.same("15 the first cell", x.seen(0, 4, 4), 101);
        Check.same("15 the second one, of another client", x.seen(1, 5, 4), 102);
        Check.same("15 keys of another window do not count", x.seen(0, 0, 0), 103);
        Check.same("15 the third one", x.seen(0, 4, 5), 104);
        x.tick(1);
        Check.same("21 so they were done", x.screen(0, 4, 4), 101);
        Check.same("21 so they were done", x.screen(0, 5, 4), 102);
        Check.same("21 so they were done", x.screen(0, 0, 0), 103);
        Check.same("21 so they were done", x.screen(0, 4, 5), 104);
        Check.same("23 all of the one were right", x.rightShare(0), 1.0);
    }

    private static void guessGoesRound() {
        Remotepane x = Scene.sessions(1);
        x.openWindow(0, 0, 0, 2, 2);
        x.join(0, 0);
        x.type(0, 'a');
        x.type(0, 'b');
        x.type(0, 'c');
        x.tick(1);
        x.type(0, 'd');
        Check.same("15 of the last cell", x.seen(0, 1, 1), 104);
        x.type(0, 'e');
        Check.same("15 of the first one", x.seen(0, 0, 0), 105);
        for (char letter = 'f'; letter <= 'i'; letter++) {
            x.type(0, letter);
        }
        Check.same("15 twice round", x.seen(0, 0, 0), 109);
        Check.same("15 not twice", x.seen(0, 1, 0), 106);
        x.tick(1);
        Check.same("21 so they were done", x.screen(0, 0, 0), 109);
        Check.same("23 all were right", x.rightShare(0), 1.0);
    }

    private static void guessMovesWithItsWindow() {
        Remotepane x = Scene.sessions(1);
        x.openWindow(0, 0, 0, 2, 2);
        x.join(0, 0);
        x.type(0, 'a');
        x.type(0, 'b');
        x.type(0, 'c');
        x.moveWindow(0, 0, 10, 6);
        Check.same("15 not where it was", x.seen(0, 0, 0), 0);
        Check.same("15 the first", x.seen(0, 10, 6), 101);
        Check.same("15 the second", x.seen(0, 11, 6), 102);
        Check.same("15 the third", x.seen(0, 10, 7), 103);
        Check.same("15 no fourth", x.seen(0, 11, 7), 0);
        x.moveWindow(0, 0, -1, -1);
        Check.same("15 all three are beyond", x.seen(0, 0, 0), 0);
        x.type(0, 'd');
        Check.same("15 the fourth is not", x.seen(0, 0, 0), 104);
        x.tick(1);
        Check.same("23 one of four", x.rightShare(0), 0.25);
    }

    /** A place, and whether the first cell of the window there is on the screen. */
    private static void guessBeyondEachEdge() {
        int[][] places = {{0, 0, 1}, {11, 0, 1}, {0, 7, 1}, {11, 7, 1}, {-1, 0, 0}, {-1, 7, 0},
            {0, -1, 0}, {11, -1, 0}, {-5, -5, 0}, {-1, 1, 0}, {11, -5, 0}, {-5, 7, 0}};
        for (int[] p : places) {
            Remotepane x = Scene.sessions(1);
            x.join(0, 0);
            x.openWindow(0, p[0], p[1], 12, 8);
            x.type(0, 'q');
            int shown = 0;
            for (int cell = 0; cell < 96; cell++) {
                shown += x.seen(0, cell % 12, cell / 12) == 117 ? 1 : 0;
            }
            String what = " at " + p[0] + ", " + p[1];
            Check.same("15 a guess" + what, shown, p[2]);
            Check.same("22 it is a guess" + what, x.guesses(0), 1);
            x.tick(1);
            Check.same("23 right or not" + what, x.rightShare(0), (float) p[2]);
        }
        Remotepane x = Scene.sessions(1);
        x.join(0, 0);
        x.openWindow(0, 11, 7, 2, 2);
        for (char letter = 'a'; letter <= 'd'; letter++) {
            x.type(0, letter);
        }
        Check.same("15 the first is on the screen", x.seen(0, 11, 7), 101);
        Check.same("15 the second is not in the next row", x.seen(0, 0, 7), 0);
        x.tick(1);
        Check.same("23 three are beyond the right and the lower edge", x.rightShare(0), 0.25);
    }

    private static void guessOfClosedWindow() {
        Remotepane x = Scene.looked(0);
        x.draw(0, 0, 0, 0, 12, 8, 30);
        x.tick(1);
        x.openWindow(0, 2, 2, 2, 1);
        x.type(0, 'a');
        x.moveWindow(0, 1, 6, 6);
        x.type(0, 'b');
        x.closeWindow(0, 1);
        Check.same("15 it stands where it was as it was closed", x.seen(0, 6, 6), 101);
        Check.same("15 the other one too", x.seen(0, 7, 6), 102);
        Check.same("15 not where it was before", x.seen(0, 2, 2), 30);
        Check.same("22 they are not gone", x.guesses(0), 2);
        x.tick(1);
        Check.same("15 gone", x.seen(0, 6, 6), 30);
        Check.same("22 gone", x.guesses(0), 0);
        x.openWindow(0, -1, 0, 2, 1);
        x.type(0, 'c');
        x.type(0, 'd');
        x.closeWindow(0, 2);
        Check.same("15 one was beyond as it was closed", x.seen(0, 0, 0), 104);
        Check.same("22 but is a guess", x.guesses(0), 2);
    }

    private static void guessOfHiddenAndCovered() {
        Remotepane x = Scene.sessions(1);
        x.join(0, 0);
        x.openWindow(0, 3, 3, 1, 1);
        x.type(0, 'a');
        x.show(0, 0, false);
        Check.same("15 hidden", x.seen(0, 3, 3), 101);
        x.show(0, 0, true);
        Scene.window(x, 0, 0, 12, 8, 44);
        Check.same("15 covered", x.seen(0, 3, 3), 101);
        x.tick(1);
        Check.same("15 gone: the picture", x.seen(0, 3, 3), 44);
        Check.same("23 covered by another colour", x.rightShare(0), 0.0);
    }

    private static void lastGuessOfSeveral() {
        Remotepane x = Scene.sessions(1);
        x.join(0, 0);
        for (int i = 0; i < 3; i++) {
            x.openWindow(0, 3, 3, 1, 1);
            x.type(0, (char) ('a' + i));
        }
        Check.same("15 the last one", x.seen(0, 3, 3), 103);
        x.raise(0, 0);
        Check.same("15 the last one, not that of the topmost", x.seen(0, 3, 3), 103);
        x.moveWindow(0, 2, -1, 3);
        Check.same("15 of those that stand there", x.seen(0, 3, 3), 102);
        x.moveWindow(0, 1, 3, -1);
        Check.same("15 of those that stand there", x.seen(0, 3, 3), 101);
        x.moveWindow(0, 0, 12 - 1, 7);
        Check.same("15 none: the picture", x.seen(0, 3, 3), 0);
        Check.same("15 there it is", x.seen(0, 11, 7), 101);
    }

    private static void guessesOfOthersAreNotSeen() {
        Remotepane x = Scene.sessions(2);
        x.openWindow(0, 0, 0, 1, 1);
        x.openWindow(1, 0, 0, 1, 1);
        x.join(0, 0);
        x.join(0, 0);
        x.join(1, 0);
        x.type(0, 'a');
        Check.same("15 its own", x.seen(0, 0, 0), 101);
        Check.same("15 not of another one", x.seen(1, 0, 0), 0);
        Check.same("15 nor in another session", x.seen(2, 0, 0), 0);
        x.type(1, 'b');
        Check.same("15 its own, though another one's is later", x.seen(0, 0, 0), 101);
        Check.same("22 one each", x.guesses(0) * 100 + x.guesses(1) * 10 + x.guesses(2), 110);
        Check.same("14 no guess is in a picture", x.picture(0, 0, 0), 0);
        Check.same("16 nor behind", x.behind(0), 0);
        x.tick(1);
        Check.same("23 each was right", x.rightShare(0), 1.0);
        Check.same("23 each was right", x.rightShare(1), 1.0);
        Check.fails("23 the third has none", NO_SHARE, () -> x.rightShare(2));
    }

    /** Keys of two windows at the same place: only behind its own key a guess is asked. */
    private static void rightBehindItsKey() {
        Remotepane x = Scene.sessions(1);
        x.openWindow(0, 0, 0, 1, 1);
        x.openWindow(0, 0, 0, 1, 1);
        x.join(0, 0);
        x.join(0, 0);
        x.type(1, 'a');
        x.raise(0, 0);
        x.type(0, 'a');
        x.tick(1);
        Check.same("23 not yet right behind the first key", x.rightShare(1), 0.0);
        Check.same("23 right behind the second", x.rightShare(0), 1.0);
        x.type(0, 'b');
        x.raise(0, 1);
        x.type(1, 'b');
        x.raise(0, 0);
        x.tick(1);
        Check.same("23 right at once", x.rightShare(0), 1.0);
        Check.same("23 the colour is that of the key ahead", x.rightShare(1), 0.5);
    }

    private static void rightThoughCovered() {
        Remotepane x = Scene.sessions(1);
        x.openWindow(0, 0, 0, 2, 1);
        x.join(0, 0);
        x.type(0, 'a');
        x.type(0, 'b');
        Scene.window(x, 0, 0, 1, 1, 101);
        Scene.window(x, 1, 0, 1, 1, 103);
        x.tick(1);
        Check.same("23 the cell of the screen has the colour, or not", x.rightShare(0), 0.5);
        x.closeWindow(0, 1);
        x.closeWindow(0, 2);
        x.mark(0, 0, false, true);
        x.type(0, 'c');
        Scene.window(x, 0, 0, 1, 1, 103);
        x.tick(1);
        Check.same("23 of a silent window too", x.rightShare(0), 2.0f / 3.0f);
        x.type(0, 'd');
        x.show(0, 3, false);
        x.show(0, 0, false);
        x.tick(1);
        Check.same("23 hidden, with nothing there", x.rightShare(0), 0.5);
    }

    private static void wrongBeyondTheScreen() {
        Remotepane x = Scene.sessions(1);
        x.openWindow(0, 0, 0, 3, 1);
        x.join(0, 0);
        x.type(0, 'a');
        x.moveWindow(0, 0, -1, 0);
        x.tick(1);
        Check.same("23 moved beyond the screen", x.rightShare(0), 0.0);
        x.type(0, 'b');
        x.moveWindow(0, 0, -2, 0);
        x.moveWindow(0, 0, -1, 0);
        x.tick(1);
        Check.same("23 moved there and back", x.rightShare(0), 0.5);
    }

    private static void wrongWhenClosed() {
        Remotepane x = Scene.sessions(1);
        x.openWindow(0, 0, 0, 1, 1);
        x.openWindow(0, 0, 0, 1, 1);
        x.draw(0, 0, 0, 0, 1, 1, 101);
        x.join(0, 0);
        x.type(0, 'a');
        x.closeWindow(0, 1);
        Check.same("10 the colour is there", x.screen(0, 0, 0), 101);
        x.tick(1);
        Check.same("23 but the window is closed", x.rightShare(0), 0.0);
    }

    private static void sharesOfAll() {
        Remotepane x = Scene.looked(0);
        Check.fails("23 none was typed", NO_SHARE, () -> x.rightShare(0));
        x.type(0, 'a');
        Check.fails("23 none is gone", NO_SHARE, () -> x.rightShare(0));
        x.tick(1);
        Check.same("23 1 of 1", x.rightShare(0), 1.0f);
        for (int gone = 2; gone <= 60; gone++) {
            boolean isRight = gone % 3 == 0;
            x.mark(0, 0, false, !isRight);
            x.type(0, 'b');
            x.tick(1);
            float due = (float) (1 + gone / 3) / (float) gone;
            Check.same("23 of " + gone, x.rightShare(0), due);
        }
    }

    private static void contentsFrom0To9999() {
        Remotepane x = Scene.sessions(2);
        for (int kind = 0; kind <= 2; kind++) {
            x.allow(0, 1, kind, true);
        }
        Check.fails("26 none at first", NONE, () -> x.paste(0, 1));
        Check.same("24 none before", x.copy(0, 0, 0), -1);
        Check.same("26 0 is a content", x.paste(0, 1), 0);
        Check.same("24 0 was there", x.copy(0, 2, 9999), 0);
        Check.same("26 9999 too", x.paste(0, 1), 9999);
        Check.same("24 9999 was there", x.copy(1, 1, 1), 9999);
        for (int content : new int[] {-1, 10000, Integer.MIN_VALUE, Integer.MAX_VALUE}) {
            Check.fails("24 content " + content, RANGE, () -> x.copy(0, 0, content));
            Check.same("24 it stays", x.paste(0, 1), 9999);
        }
        for (int kind : new int[] {-1, 3, Integer.MIN_VALUE, Integer.MAX_VALUE}) {
            Check.fails("24 kind " + kind, RANGE, () -> x.copy(0, kind, 5));
            Check.fails("25 kind " + kind, RANGE, () -> x.allow(0, 1, kind, false));
            Check.same("24 it stays", x.paste(0, 1), 9999);
        }
    }

    private static void noRightsAtFirst() {
        for (int from = 0; from < 4; from++) {
            for (int to = 0; to < 4; to++) {
                for (int kind = 0; kind < 3 && from != to; kind++) {
                    Remotepane x = Scene.sessions(4);
                    onlyThisRight(x, from, to, kind);
                }
            }
        }
    }

    private static void onlyThisRight(Remotepane x, int from, int to, int kind) {
        String what = from + " to " + to + ", kind " + kind;
        x.copy(from, kind, 77);
        Check.fails("26 not from " + what, DENIED, () -> x.paste(from, to));
        Check.same("25 it could not from " + what, x.allow(from, to, kind, true), false);
        Check.same("25 it can from " + what, x.allow(from, to, kind, true), true);
        int can = 0;
        for (int a = 0; a < 4; a++) {
            for (int b = 0; b < 4; b++) {
                for (int k = 0; k < 3 && a != b; k++) {
                    can += x.allow(a, b, k, a == from && b == to && k == kind) ? 1 : 0;
                }
            }
        }
        Check.same("25 nothing else can but from " + what, can, 1);
        Check.same("26 it passes from " + what, x.paste(from, to), 77);
        Check.same("25 it could from " + what, x.allow(from, to, kind, false), true);
        Check.fails("26 no longer from " + what, DENIED, () -> x.paste(from, to));
    }

    private static void rightsOfEachKind() {
        for (int allowed = 0; allowed <= 2; allowed++) {
            Remotepane x = Scene.sessions(2);
            x.allow(0, 1, allowed, true);
            for (int kind = 0; kind <= 2; kind++) {
                x.copy(0, kind, 10 + kind);
                if (kind == allowed) {
                    Check.same("26 of this kind", x.paste(0, 1), 10 + kind);
                } else {
                    Check.fails("26 of no other kind", DENIED, () -> x.paste(0, 1));
                }
            }
            Check.same("26 what came stays", x.copy(1, 0, 1), 10 + allowed);
        }
    }

    private static void pasteTakesThePlaceOfAnother() {
        Remotepane x = Scene.sessions(3);
        x.allow(0, 1, 2, true);
        x.allow(1, 2, 2, true);
        x.allow(0, 2, 2, true);
        x.copy(1, 0, 5);
        x.copy(0, 2, 6);
        Check.same("26 in place of 5", x.paste(0, 1), 6);
        Check.same("26 of the kind with which it came", x.paste(1, 2), 6);
        Check.same("24 that is there", x.copy(2, 1, 7), 6);
        x.allow(2, 0, 1, true);
        Check.same("26 in place of 6", x.paste(2, 0), 7);
        Check.same("24 that is there", x.copy(0, 0, 1), 7);
        Check.same("24 the one that was pasted stays", x.copy(2, 0, 1), 7);
        Check.same("24 the one between stays", x.copy(1, 0, 1), 6);
    }

    private static void pasteRoundAllSessions() {
        for (int missing = 0; missing < 7; missing++) {
            Remotepane x = Scene.sessions(4);
            int[][] rights = {{0, 1}, {0, 2}, {1, 2}, {0, 3}, {1, 3}, {2, 3}, {9, 9}};
            for (int i = 0; i < 6; i++) {
                if (i != missing) {
                    x.allow(rights[i][0], rights[i][1], 1, true);
                }
            }
            x.copy(0, 1, 40);
            for (int from = 0; from < 3; from++) {
                final int f = from;
                if (rights[missing][1] == from + 1) {
                    Check.fails("26 without " + rights[missing][0] + " to " + (from + 1), DENIED,
                            () -> x.paste(f, f + 1));
                    x.allow(rights[missing][0], from + 1, 1, true);
                }
                Check.same("26 all that it has passed may", x.paste(from, from + 1), 40);
            }
        }
    }

    private static void pasteBackToItsFirst() {
        Remotepane x = Scene.sessions(3);
        x.allow(0, 1, 0, true);
        x.allow(0, 2, 0, true);
        x.allow(1, 2, 0, true);
        x.copy(0, 0, 8);
        x.paste(0, 1);
        x.paste(1, 2);
        x.allow(2, 0, 0, true);
        Check.fails("26 the one between may not", DENIED, () -> x.paste(2, 0));
        x.allow(2, 0, 0, false);
        x.allow(1, 0, 0, true);
        Check.fails("26 the last one may not", DENIED, () -> x.paste(2, 0));
        x.allow(2, 0, 0, true);
        Check.same("26 the first one is not asked for itself", x.paste(2, 0), 8);
        Check.fails("26 it has passed the others, though", DENIED, () -> x.paste(0, 1));
        x.allow(2, 1, 0, true);
        Check.same("26 all but the one to which it comes", x.paste(0, 1), 8);
    }

    private static void wayOfEachClipboard() {
        Remotepane x = Scene.sessions(3);
        x.allow(0, 1, 0, true);
        x.allow(0, 2, 0, true);
        x.copy(0, 0, 8);
        x.paste(0, 1);
        Check.same("26 the one that stayed has passed the first alone", x.paste(0, 2), 8);
        Check.fails("26 the second may pass nothing", DENIED, () -> x.paste(1, 2));
        Check.fails("26 nor the third", DENIED, () -> x.paste(2, 1));
    }

    private static void copyBeginsANewWay() {
        Remotepane x = Scene.sessions(3);
        x.allow(0, 1, 0, true);
        x.allow(1, 2, 0, true);
        x.copy(0, 0, 8);
        x.paste(0, 1);
        Check.fails("26 the first may not pass it to the third", DENIED, () -> x.paste(1, 2));
        Check.same("24 the same content, copied", x.copy(1, 0, 8), 8);
        Check.same("26 has passed nothing but the second", x.paste(1, 2), 8);
    }
}
