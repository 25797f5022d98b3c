import java.util.NoSuchElementException;

/**
 * The sentences on moving and recordings (promises 27 to 34) that name an edge: 2 rows or fewer that
 * are left, rows that become others, keys that wait for the end of a move, at most 60 ticks, secret
 * cells, means and invariants; and runs of 512 calls.
 */
public final class RecordingEdgeTests {
    private static final Class<IndexOutOfBoundsException> NO_SUCH = IndexOutOfBoundsException.class;
    private static final Class<IllegalStateException> STATE = IllegalStateException.class;
    private static final Class<NoSuchElementException> NONE = NoSuchElementException.class;

    public static void main(String[] args) {
        eightRowsAtFirst();
        oneRowATick();
        emptySessionMoves();
        fourSessionsMove();
        threeLeftAreNotDone();
        oneOrNoneLeft();
        uncopiedRowsFirst();
        uncopiedOnesAreNotAsked();
        lowestOfTheOthers();
        neverDoneWhileRowsChange();
        rowsAreComparedByColours();
        copiedAheadOfTheKeys();
        keysOfTheLastTickWait();
        keysOfTheLastTickWaitInOrder();
        closedWhileKeysWait();
        movesOneAfterTheOther();
        moveBeginsAnew();
        recordingWithoutTicks();
        recordingBeginsThen();
        recordingOfTheFirstTick();
        recordingOf60Ticks();
        notesOf60Ticks();
        recordingsOneAfterTheOther();
        recordingOfTheSameScreenAnew();
        recordingsOfAllSessions();
        recordingWhileMoving();
        recordingBehindTheKeys();
        playedFrom1OnAndAtCells();
        secretTopmostAlone();
        secretBeyondAndClosed();
        secretCells();
        secretOfAnyColour();
        consistentThroughout();
        callsUpTo512();
        Check.end();
    }

    private static void row(Remotepane x, int row, int colour) {
        x.draw(0, 0, 0, row, 12, 1, colour);
    }

    private static void eightRowsAtFirst() {
        Remotepane x = Scene.desktop();
        Check.fails("28 not moving", STATE, () -> x.left(0));
        x.tick(20);
        Check.fails("28 never moved", STATE, () -> x.left(0));
        Check.same("27 not before", x.move(0), false);
        Check.same("28 all 8", x.left(0), 8);
        x.draw(0, 0, 0, 0, 12, 8, 5);
        Check.same("28 others are no more than all", x.left(0), 8);
        Check.fails("27 it is moving", STATE, () -> x.move(0));
        Check.same("28 that changes nothing", x.left(0), 8);
        Check.same("29 it is not done", x.host(0), 0);
    }

    private static void oneRowATick() {
        Remotepane x = Scene.desktop();
        x.move(0);
        for (int left = 8; left >= 2; left--) {
            Check.same("28 left", x.left(0), left);
            Check.same("29 not done", x.host(0), 0);
            x.tick(1);
        }
        Check.same("29 with 2 left it is done", x.host(0), 1);
        Check.fails("28 it does not move now", STATE, () -> x.left(0));
        Remotepane y = Scene.desktop();
        y.move(0);
        y.tick(6);
        Check.same("29 six ticks are too few", y.host(0), 0);
        Remotepane z = Scene.desktop();
        z.move(0);
        z.tick(7);
        Check.same("29 seven are enough", z.host(0), 1);
    }

    private static void emptySessionMoves() {
        Remotepane x = Scene.sessions(1);
        Check.same("27 without a window", x.move(0), false);
        Check.same("28 8 rows of 0", x.left(0), 8);
        x.tick(6);
        Check.same("28 2 are left", x.left(0), 2);
        x.tick(1);
        Check.same("29 done", x.host(0), 1);
    }

    private static void fourSessionsMove() {
        Remotepane x = Scene.sessions(4);
        for (int session = 0; session < 4; session++) {
            x.openWindow(session, 0, 0, 12, 8);
            x.move(session);
            x.tick(1);
        }
        for (int session = 0; session < 4; session++) {
            Check.same("28 each by itself", x.left(session), 8 - (4 - session));
        }
        x.tick(3);
        for (int session = 0; session < 4; session++) {
            Check.same("29 the first alone is done", x.host(session), session == 0 ? 1 : 0);
        }
        x.draw(1, 0, 0, 0, 12, 8, 3);
        Check.same("28 all of the second are others", x.left(1), 8);
        Check.same("28 not of the third", x.left(2), 3);
        Check.fails("28 a session that is not there", NO_SUCH, () -> x.left(4));
    }

    /** Rows 0 to 5 are copied, and then so many of them become others. */
    private static Remotepane moved(int others) {
        Remotepane x = Scene.desktop();
        x.move(0);
        x.tick(6);
        for (int row = 0; row < others; row++) {
            row(x, row, 5);
        }
        Check.same("28 left", x.left(0), 2 + others);
        return x;
    }

    private static void threeLeftAreNotDone() {
        for (int others = 0; others <= 6; others++) {
            Remotepane x = moved(others);
            x.tick(1);
            Check.same("29 done with " + (2 + others) + " left", x.host(0), others == 0 ? 1 : 0);
            for (int left = 2 + others - 1; left >= 2; left--) {
                Check.same("28 one less", x.left(0), left);
                Check.same("29 not done", x.host(0), 0);
                x.tick(1);
            }
            Check.same("29 done", x.host(0), 1);
        }
    }

    private static void oneOrNoneLeft() {
        for (int left = 0; left <= 3; left++) {
            Remotepane x = moved(2);
            x.tick(2);
            Check.same("28 two rows that became others", x.left(0), 2);
            row(x, 0, left > 0 ? 6 : 0);
            row(x, 1, left > 1 ? 6 : 0);
            row(x, 2, left > 2 ? 6 : 0);
            Check.same("28 so many others", x.left(0), left);
            x.tick(1);
            Check.same("29 done with " + left, x.host(0), left <= 2 ? 1 : 0);
        }
    }

    private static void uncopiedRowsFirst() {
        Remotepane x = moved(6);
        x.tick(1);
        row(x, 7, 9);
        Check.same("28 7 was not copied yet", x.left(0), 7);
        row(x, 6, 9);
        Check.same("28 6 was", x.left(0), 8);
        row(x, 6, 0);
        x.tick(1);
        row(x, 7, 8);
        Check.same("28 then 7, ahead of 0", x.left(0), 7);
    }

    /** A row that was not copied yet is left, however often it becomes another one. */
    private static void uncopiedOnesAreNotAsked() {
        Remotepane x = Scene.desktop();
        x.move(0);
        x.tick(2);
        for (int i = 1; i <= 3; i++) {
            row(x, 5, i);
            Check.same("28 still one row", x.left(0), 6);
        }
        row(x, 5, 0);
        Check.same("28 as it was: not copied, though", x.left(0), 6);
    }

    private static void lowestOfTheOthers() {
        Remotepane x = Scene.desktop();
        x.move(0);
        x.tick(6);
        row(x, 2, 5);
        row(x, 4, 5);
        row(x, 5, 5);
        x.tick(2);
        Check.same("28 6 and 7 were copied", x.left(0), 3);
        x.tick(1);
        row(x, 2, 6);
        Check.same("28 then 2, ahead of 4", x.left(0), 3);
        row(x, 2, 5);
        Check.same("28 as it was copied: 4 and 5 are left", x.left(0), 2);
        row(x, 7, 5);
        x.tick(1);
        row(x, 4, 6);
        Check.same("28 then 4, ahead of 5 and 7", x.left(0), 3);
    }

    private static void neverDoneWhileRowsChange() {
        Remotepane x = Scene.desktop();
        x.move(0);
        for (int i = 1; i <= 60; i++) {
            x.draw(0, 0, 0, 0, 1, 8, i);
            x.tick(1);
            Check.same("29 not done", x.host(0), 0);
            Check.same("28 all but the last one", x.left(0), 7);
        }
        x.tick(5);
        Check.same("28 two", x.left(0), 2);
        x.tick(1);
        Check.same("29 done at last", x.host(0), 1);
    }

    private static void rowsAreComparedByColours() {
        Remotepane x = Scene.desktop();
        x.move(0);
        x.tick(6);
        for (int column = 0; column < 12; column++) {
            x.draw(0, 0, column, 3, 1, 1, 1);
            Check.same("28 by any cell", x.left(0), 3);
            x.draw(0, 0, column, 3, 1, 1, 0);
            Check.same("28 or by none", x.left(0), 2);
        }
        x.openWindow(0, 0, 0, 12, 8);
        Check.same("28 another window of the same colours", x.left(0), 2);
        Scene.window(x, 3, 2, 2, 2, 1);
        Check.same("28 one of another colour", x.left(0), 4);
        x.show(0, 2, false);
        Check.same("28 hidden", x.left(0), 2);
    }

    private static void copiedAheadOfTheKeys() {
        Remotepane x = Scene.looked(0);
        x.move(0);
        x.type(0, 'a');
        x.tick(1);
        Check.same("28 copied at the beginning, another one at the end", x.left(0), 8);
        x.tick(1);
        Check.same("28 then 1", x.left(0), 7);
    }

    private static void keysOfTheLastTickWait() {
        Remotepane x = Scene.sessions(2);
        x.openWindow(0, 0, 0, 12, 8);
        x.openWindow(1, 0, 0, 12, 8);
        x.join(0, 0);
        x.join(1, 0);
        x.move(0);
        for (int tick = 1; tick <= 6; tick++) {
            x.type(0, 'a');
            x.tick(1);
            Check.same("29 done while it moves", x.guesses(0), 0);
            x.draw(0, 0, 0, 0, 12, 1, 0);
        }
        x.type(0, 'q');
        x.type(1, 'r');
        Check.same("28 2 left", x.left(0), 2);
        x.tick(1);
        Check.same("29 it is done", x.host(0), 1);
        Check.same("22 its key waits", x.guesses(0), 1);
        Check.same("15 and is seen ahead", x.seen(0, 6, 0), 117);
        Check.same("10 not yet on the screen", x.screen(0, 6, 0), 0);
        Check.same("22 a key of another session does not", x.guesses(1), 0);
        Check.same("21 it is one of those that wait", x.type(0, 's'), 2);
        x.tick(1);
        Check.same("22 done in the next tick", x.guesses(0), 0);
        Check.same("10 the one", x.screen(0, 6, 0), 117);
        Check.same("10 and the other", x.screen(0, 7, 0), 119);
        Check.same("23 all were right", x.rightShare(0), 1.0);
    }

    private static void keysOfTheLastTickWaitInOrder() {
        Remotepane x = Scene.looked(0);
        x.move(0);
        x.tick(6);
        for (int i = 0; i < 20; i++) {
            x.type(0, 'a');
        }
        x.tick(1);
        Check.fails("21 20 keys wait still", STATE, () -> x.type(0, 'b'));
        x.move(0);
        x.tick(1);
        Check.same("22 done while it moves again", x.guesses(0), 0);
        Check.same("21 room again", x.type(0, 'b'), 1);
        x.tick(1);
        Check.same("10 in their order", x.screen(0, 8, 1), 102);
    }

    private static void closedWhileKeysWait() {
        Remotepane x = Scene.looked(0);
        x.move(0);
        x.tick(6);
        x.type(0, 'a');
        x.tick(1);
        x.closeWindow(0, 0);
        Check.same("15 where it was", x.seen(0, 0, 0), 101);
        x.tick(1);
        Check.same("15 gone", x.seen(0, 0, 0), 0);
        Check.same("23 closed by then", x.rightShare(0), 0.0);
    }

    private static void movesOneAfterTheOther() {
        Remotepane x = Scene.desktop();
        for (int moves = 0; moves < 5; moves++) {
            Check.same("27 before or not", x.move(0), moves > 0);
            Check.same("29 so far", x.host(0), moves);
            Check.same("28 all rows", x.left(0), 8);
            x.tick(20);
            Check.same("29 one more, and no more than one", x.host(0), moves + 1);
        }
    }

    /** What was copied in a move before is nothing to this one. */
    private static void moveBeginsAnew() {
        Remotepane x = Scene.desktop();
        x.move(0);
        x.tick(7);
        x.move(0);
        x.tick(1);
        Check.same("28 8 less one", x.left(0), 7);
        row(x, 7, 5);
        Check.same("28 the last row was not copied in this one", x.left(0), 7);
        row(x, 0, 5);
        Check.same("28 the first one was", x.left(0), 8);
        Remotepane y = moved(6);
        y.tick(7);
        Check.same("29 done, with all rows copied", y.host(0), 1);
        y.move(0);
        Check.same("28 none of them counts", y.left(0), 8);
    }

    private static void recordingWithoutTicks() {
        Remotepane x = Scene.desktop();
        Check.fails("32 no recording", NONE, () -> x.noted(0));
        Check.fails("31 no recording", NONE, () -> x.played(0, 1, 0, 0));
        x.tick(5);
        Check.same("30 none before", x.record(0), 0);
        Check.same("32 nothing noted", x.noted(0), 0);
        for (int tick : new int[] {-1, 0, 1, 5}) {
            Check.fails("31 no ticks", NONE, () -> x.played(0, tick, 0, 0));
        }
        Check.same("30 the one before has none", x.record(0), 0);
        Check.same("34 consistent", x.isConsistent(), true);
    }

    private static void recordingBeginsThen() {
        Remotepane x = Scene.desktop();
        row(x, 0, 1);
        x.tick(1);
        x.record(0);
        row(x, 0, 2);
        row(x, 0, 3);
        x.tick(1);
        Check.same("31 its first tick is the one behind it", x.played(0, 1, 0, 0), 3);
        Check.same("32 noted against 0, not against what was", x.noted(0), 12);
        Check.fails("31 it has one", NONE, () -> x.played(0, 2, 0, 0));
    }

    private static void recordingOfTheFirstTick() {
        for (int colour : new int[] {0, 1, 255}) {
            Remotepane x = Scene.desktop();
            x.draw(0, 0, 0, 0, 12, 8, colour);
            x.record(0);
            x.tick(1);
            Check.same("32 others than 0", x.noted(0), colour == 0 ? 0 : 96);
            Check.same("31 the first cell", x.played(0, 1, 0, 0), colour);
            Check.same("31 the last one", x.played(0, 1, 11, 7), colour);
            x.tick(1);
            Check.same("32 no others than then", x.noted(0), colour == 0 ? 0 : 96);
            x.closeWindow(0, 0);
            x.tick(1);
            Check.same("32 all of them", x.noted(0), colour == 0 ? 0 : 192);
            Check.same("31 now 0", x.played(0, 3, 11, 7), 0);
        }
    }

    private static void recordingOf60Ticks() {
        Remotepane x = Scene.desktop();
        x.record(0);
        for (int tick = 1; tick <= 62; tick++) {
            final int t = tick;
            Check.fails("31 not yet " + tick, NONE, () -> x.played(0, t, 0, 0));
            x.draw(0, 0, 11, 7, 1, 1, tick);
            x.tick(1);
            if (tick <= 60) {
                Check.same("31 tick " + tick, x.played(0, tick, 11, 7), tick);
                Check.same("32 one each", x.noted(0), tick);
            } else {
                Check.fails("31 60 are the most", NONE, () -> x.played(0, t, 0, 0));
                Check.same("32 no more is noted", x.noted(0), 60);
            }
        }
        Check.same("31 the first", x.played(0, 1, 11, 7), 1);
        Check.same("31 the 60th", x.played(0, 60, 11, 7), 60);
        Check.same("34 consistent", x.isConsistent(), true);
        Check.same("30 60 ticks", x.record(0), 60);
        x.tick(1);
        Check.same("31 the new one's first", x.played(0, 1, 11, 7), 62);
        Check.same("30 one tick", x.record(0), 1);
    }

    private static void recordingsOneAfterTheOther() {
        Remotepane x = Scene.desktop();
        row(x, 0, 4);
        for (int ticks = 0; ticks <= 20; ticks++) {
            x.record(0);
            if (ticks > 0) {
                x.tick(ticks);
                Check.same("32 12 each", x.noted(0), 12);
                Check.same("31 its last tick", x.played(0, ticks, 11, 0), 4);
            }
            Check.fails("31 no more of them", NONE, () -> x.played(0, 21, 11, 0));
            Check.same("30 in place of the one before", x.record(0), ticks);
            Check.fails("31 which is gone", NONE, () -> x.played(0, 1, 11, 0));
            Check.same("32 with its notes", x.noted(0), 0);
        }
    }

    private static void recordingOfTheSameScreenAnew() {
        Remotepane x = Scene.desktop();
        x.draw(0, 0, 0, 0, 12, 8, 9);
        for (int again = 0; again < 3; again++) {
            x.record(0);
            Check.same("34 consistent without a tick", x.isConsistent(), true);
            x.tick(1);
            Check.same("32 all cells against 0, not against the one before", x.noted(0), 96);
            for (int cell = 0; cell < 96; cell++) {
                Check.same("31 cell " + cell, x.played(0, 1, cell % 12, cell / 12), 9);
            }
            Check.same("34 consistent", x.isConsistent(), true);
        }
    }

    private static void recordingsOfAllSessions() {
        Remotepane x = Scene.sessions(4);
        for (int session = 0; session < 4; session++) {
            x.openWindow(session, 0, 0, 12, 8);
            x.draw(session, 0, 0, 0, 12, 1 + session, 10 + session);
            x.record(session);
            x.tick(1);
        }
        for (int session = 0; session < 4; session++) {
            final int s = session;
            Check.same("31 its own", x.played(session, 1, 0, 0), 10 + session);
            Check.same("32 its own", x.noted(session), 12 * (1 + session));
            Check.fails("31 so many ticks", NONE, () -> x.played(s, 5 - s, 0, 0));
            Check.same("30 since it began", x.record(session), 4 - session);
        }
    }

    private static void recordingWhileMoving() {
        Remotepane x = Scene.desktop();
        x.record(0);
        x.move(0);
        for (int tick = 1; tick <= 8; tick++) {
            row(x, 7, tick);
            x.tick(1);
            Check.same("31 in each tick of a move", x.played(0, tick, 0, 7), tick);
        }
        Check.same("29 it is done", x.host(0), 1);
        Check.same("30 8 ticks", x.record(0), 8);
    }

    private static void recordingBehindTheKeys() {
        Remotepane x = Scene.looked(0);
        x.record(0);
        x.type(0, 'a');
        x.type(0, 'b');
        Check.same("32 no tick yet", x.noted(0), 0);
        x.tick(1);
        Check.same("31 the first key", x.played(0, 1, 0, 0), 101);
        Check.same("31 the second one", x.played(0, 1, 1, 0), 102);
        Check.same("32 two cells", x.noted(0), 2);
        Check.same("31 no guess is in it", x.type(0, 'c'), 1);
        Check.same("31 no guess is in it", x.played(0, 1, 2, 0), 0);
        x.mark(0, 0, true, true);
        x.tick(1);
        Check.same("31 a secret one, though silent", x.played(0, 2, 2, 0), 255);
    }

    private static void playedFrom1OnAndAtCells() {
        Remotepane x = Scene.desktop();
        for (int cell = 0; cell < 96; cell++) {
            Scene.dot(x, cell % 12, cell / 12, 1 + cell);
        }
        x.record(0);
        x.tick(1);
        x.draw(0, 0, 0, 0, 12, 8, 200);
        x.tick(1);
        for (int cell = 0; cell < 96; cell++) {
            Check.same("31 first tick", x.played(0, 1, cell % 12, cell / 12), 1 + cell);
            Check.same("31 second tick", x.played(0, 2, cell % 12, cell / 12), 200);
        }
        int[][] beyond = {{-1, 0}, {-1, 7}, {12, 0}, {12, 7}, {0, -1}, {11, -1}, {0, 8}, {11, 8}};
        for (int[] cell : beyond) {
            Check.fails("31 beyond", NO_SUCH, () -> x.played(0, 1, cell[0], cell[1]));
            Check.fails("31 beyond, of no tick", NO_SUCH, () -> x.played(0, 3, cell[0], cell[1]));
        }
        for (int tick : new int[] {0, -1, 3, 60, Integer.MIN_VALUE, Integer.MAX_VALUE}) {
            Check.fails("31 tick " + tick, NONE, () -> x.played(0, tick, 0, 0));
        }
    }

    private static void secretTopmostAlone() {
        Remotepane x = Scene.sessions(1);
        Scene.window(x, 0, 0, 6, 1, 10);
        Scene.window(x, 2, 0, 6, 1, 20);
        Scene.window(x, 4, 0, 6, 1, 30);
        x.mark(0, 1, true, false);
        x.record(0);
        x.tick(1);
        int[] due = {10, 10, 255, 255, 30, 30, 30, 30, 30, 30, 0, 0};
        for (int column = 0; column < 12; column++) {
            Check.same("31 column " + column, x.played(0, 1, column, 0), due[column]);
        }
        Check.same("10 the screen is not black", x.screen(0, 2, 0), 20);
        x.raise(0, 1);
        x.tick(1);
        Check.same("31 raised", x.played(0, 2, 7, 0), 255);
        Check.same("31 it was not then", x.played(0, 1, 7, 0), 30);
        x.show(0, 1, false);
        x.tick(1);
        Check.same("31 hidden: the one below", x.played(0, 3, 2, 0), 10);
        x.show(0, 1, true);
        x.mark(0, 1, false, true);
        x.tick(1);
        Check.same("31 silent is not secret", x.played(0, 4, 2, 0), 20);
        x.mark(0, 1, true, true);
        x.mark(0, 1, false, true);
        x.tick(1);
        Check.same("31 marked within a tick", x.played(0, 5, 2, 0), 20);
        Check.same("32 noted by ticks", x.noted(0), 10 + 4 + 6 + 6);
    }

    private static void secretBeyondAndClosed() {
        Remotepane x = Scene.sessions(1);
        Scene.window(x, -5, -5, 6, 6, 10);
        x.mark(0, 0, true, false);
        x.record(0);
        x.tick(1);
        Check.same("32 one cell is on the screen", x.noted(0), 1);
        Check.same("31 that one", x.played(0, 1, 0, 0), 255);
        x.closeWindow(0, 0);
        x.tick(1);
        Check.same("31 closed", x.played(0, 2, 0, 0), 0);
        Check.same("32 noted again", x.noted(0), 2);
        x.openWindow(0, 0, 0, 1, 1);
        x.tick(1);
        Check.same("31 a new one is not secret", x.played(0, 3, 0, 0), 0);
        Check.same("32 nothing to note", x.noted(0), 2);
    }

    private static void secretCells() {
        int[][] places = {{0, 0, 1, 1}, {11, 0, 1, 1}, {0, 7, 1, 1}, {11, 7, 1, 1}, {5, 6, 3, 2},
            {-5, 4, 7, 1}, {0, 0, 12, 8}};
        for (int[] p : places) {
            Remotepane x = Scene.sessions(1);
            Scene.window(x, 0, 0, 12, 8, 3);
            Scene.window(x, p[0], p[1], p[2], p[3], 4);
            x.mark(0, 1, true, false);
            x.record(0);
            x.tick(1);
            int wrong = 0;
            for (int cell = 0; cell < 96; cell++) {
                int column = cell % 12 - p[0];
                int row = cell / 12 - p[1];
                boolean isSecret = column >= 0 && column < p[2] && row >= 0 && row < p[3];
                wrong += x.played(0, 1, cell % 12, cell / 12) == (isSecret ? 255 : 3) ? 0 : 1;
            }
            Check.same("31 black at " + p[0] + ", " + p[1] + " alone", wrong, 0);
        }
    }

    private static void secretOfAnyColour() {
        for (int colour : new int[] {0, 1, 254, 255}) {
            Remotepane x = Scene.sessions(1);
            Scene.window(x, 3, 3, 2, 2, colour);
            x.mark(0, 0, true, false);
            x.record(0);
            x.tick(1);
            Check.same("31 255 for " + colour, x.played(0, 1, 4, 4), 255);
            x.draw(0, 0, 0, 0, 2, 2, 77);
            x.tick(1);
            Check.same("32 nothing of it is told", x.noted(0), 4);
            x.draw(0, 0, 0, 0, 2, 2, colour);
            x.mark(0, 0, false, false);
            x.tick(1);
            Check.same("31 no longer secret", x.played(0, 3, 4, 4), colour);
            Check.same("32 others than 255", x.noted(0), colour == 255 ? 4 : 8);
        }
    }

    private static void consistentThroughout() {
        Remotepane x = Scene.desktop();
        x.record(0);
        x.join(0, 9);
        for (int i = 0; i < 65; i++) {
            x.type(0, 'a');
            x.moveWindow(0, 0, i % 17 - 5, i % 13 - 5);
            x.mark(0, 0, i % 3 == 0, i % 2 == 0);
            x.show(0, 0, i % 5 != 1);
            Check.same("34 within a tick", x.isConsistent(), true);
            x.show(0, 0, true);
            x.tick(1);
        }
        Check.same("34 with money of " + x.money(0), x.isConsistent(), true);
        Check.same("30 60 ticks", x.record(0), 60);
        Check.same("34 a new recording", x.isConsistent(), true);
        x.closeWindow(0, 0);
        Check.same("34 closed", x.isConsistent(), true);
    }

    /** All cells others in each of 60 ticks, and in some more. */
    private static void notesOf60Ticks() {
        Remotepane x = Scene.desktop();
        x.record(0);
        for (int tick = 1; tick <= 61; tick++) {
            x.draw(0, 0, 0, 0, 12, 8, 100 + tick);
            x.tick(1);
            Check.same("32 96 each", x.noted(0), 96 * Math.min(60, tick));
        }
        for (int tick = 1; tick <= 60; tick++) {
            Check.same("31 the last cell of " + tick, x.played(0, tick, 11, 7), 100 + tick);
        }
        Check.same("34 consistent", x.isConsistent(), true);
    }

    private static void callsUpTo512() {
        Remotepane x = Scene.sessions(4);
        for (int session = 0; session < 4; session++) {
            for (int window = 0; window < 6; window++) {
                x.openWindow(session, window - 2, window - 2, 12, 8);
            }
            x.record(session);
            x.move(session);
        }
        for (int client = 0; client < 6; client++) {
            x.join(client % 4, client + 4);
        }
        long sum = 0;
        int calls = 4 + 24 + 8 + 6;
        int colour = 0;
        while (calls < 510) {
            x.draw(calls / 2 % 4, 5, 0, 0, 12, 8, colour % 255 + 1);
            sum += x.tick(20);
            colour++;
            calls += 2;
        }
        Check.same("20 the 511th call", x.carried(), sum);
        Check.same("34 the 512th call", x.isConsistent(), true);
        Remotepane y = Scene.looked(9);
        int keys = 0;
        for (int call = 3; call < 511; call++) {
            keys = call % 21 == 20 ? y.tick(1) * 0 : y.type(0, 'z');
        }
        Check.same("22 keys of a long run", y.guesses(0), keys);
    }
}
