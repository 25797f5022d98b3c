/**
 * The sentences on sessions and windows (promises 1 to 10) that name an edge: how many there can be,
 * none at all, numbers of closed ones, places beyond the screen, the order in which windows lie.
 */
public final class SessionEdgeTests {
    private static final Class<IndexOutOfBoundsException> NO_SUCH = IndexOutOfBoundsException.class;
    private static final Class<IllegalStateException> STATE = IllegalStateException.class;

    public static void main(String[] args) {
        newObjectHasNothing();
        newObjectsAreApart();
        sessionsFrom0To3();
        screenWithoutWindow();
        screenIsTwelveByEight();
        coloursFrom0To255();
        windowsFrom0To5();
        closedOnesKeepTheirNumbers();
        windowsBeyondTheScreen();
        cellsOfAWindowBeyondTheScreen();
        leastAndGreatestWindow();
        newWindowCoversWith0();
        topmostShownOfSix();
        hiddenOnesKeepTheirPlaces();
        onlyOpenedOrRaisedComesOnTop();
        raisedOneByOne();
        raisedAlone();
        closedOrHiddenAtTheTop();
        movedByCells();
        movedWithoutASight();
        shownAndHidden();
        markedInAllWays();
        drawnAsFarAsInTheWindow();
        drawnBeyondTheScreen();
        drawnWhereItIsSo();
        closedAndShown();
        Check.end();
    }

    private static void newObjectHasNothing() {
        for (int number = -1; number <= 6; number++) {
            final int n = number;
            Remotepane x = new Remotepane();
            Check.fails("1 no session " + n, NO_SUCH, () -> x.screen(n, 0, 0));
            Check.fails("1 no session to look at " + n, NO_SUCH, () -> x.join(n, 0));
            Check.fails("1 no client " + n, NO_SUCH, () -> x.behind(n));
        }
        Remotepane x = new Remotepane();
        Check.same("1 a tick of nothing carries nothing", x.tick(20), 0);
        Check.same("1 nor in all", x.carried(), 0);
        Check.same("1 and is consistent", x.isConsistent(), true);
        Check.same("1 sessions can be opened behind a tick", x.openSession(), 0);
    }

    private static void newObjectsAreApart() {
        Remotepane x = Scene.looked(9);
        Remotepane y = new Remotepane();
        Check.fails("1 not the sessions of another object", NO_SUCH, () -> y.screen(0, 0, 0));
        Check.fails("1 not its clients", NO_SUCH, () -> y.money(0));
        Scene.dot(x, 0, 0, 1);
        x.tick(1);
        Check.same("1 not its line", y.carried(), 0);
        y.openSession();
        Check.same("1 not its windows", y.openWindow(0, 0, 0, 1, 1), 0);
    }

    private static void sessionsFrom0To3() {
        Remotepane x = new Remotepane();
        for (int number = 0; number < 4; number++) {
            Check.same("2 the next number", x.openSession(), number);
        }
        for (int again = 0; again < 3; again++) {
            Check.fails("2 4 are the most", STATE, x::openSession);
        }
        x.tick(20);
        Check.fails("2 later too", STATE, x::openSession);
        for (int number = 0; number < 4; number++) {
            Check.same("2 each has windows of its own", x.openWindow(number, 0, 0, 1, 1), 0);
            x.draw(number, 0, 0, 0, 1, 1, 20 + number);
        }
        for (int number = 0; number < 4; number++) {
            Check.same("2 and a screen of its own", x.screen(number, 0, 0), 20 + number);
        }
        Check.fails("2 none beyond", NO_SUCH, () -> x.openWindow(4, 0, 0, 1, 1));
    }

    private static void screenWithoutWindow() {
        Check.same("10 0 without a window", Scene.colouredCells(Scene.sessions(1), 0), 0);
        Remotepane x = Scene.sessions(1);
        Scene.window(x, 0, 0, 12, 8, 255);
        Check.same("10 all of a window", Scene.colouredCells(x, 0), 96);
        x.closeWindow(0, 0);
        Check.same("10 0 when it is closed", Scene.colouredCells(x, 0), 0);
        Scene.window(x, 0, 0, 12, 8, 1);
        x.show(0, 1, false);
        Check.same("10 0 when none is shown", Scene.colouredCells(x, 0), 0);
    }

    private static void screenIsTwelveByEight() {
        Remotepane x = Scene.desktop();
        for (int cell = 0; cell < 96; cell++) {
            Scene.dot(x, cell % 12, cell / 12, cell + 1);
        }
        for (int cell = 0; cell < 96; cell++) {
            Check.same("10 cell " + cell, x.screen(0, cell % 12, cell / 12), cell + 1);
        }
        int[][] beyond = {{-1, 0}, {-1, 7}, {12, 0}, {12, 7}, {0, -1}, {11, -1}, {0, 8}, {11, 8},
            {Integer.MAX_VALUE, 0}, {0, Integer.MIN_VALUE}};
        for (int[] cell : beyond) {
            Check.fails("10 beyond", NO_SUCH, () -> x.screen(0, cell[0], cell[1]));
        }
    }

    private static void coloursFrom0To255() {
        Remotepane x = Scene.desktop();
        for (int colour : new int[] {255, 1, 254, 128, 127, 0}) {
            Check.same("9 another colour", x.draw(0, 0, 11, 7, 1, 1, colour), 1);
            Check.same("9 colour " + colour, x.screen(0, 11, 7), colour);
        }
        for (int colour : new int[] {-1, 256, Integer.MIN_VALUE, Integer.MAX_VALUE}) {
            Check.fails("9 no colour " + colour, IllegalArgumentException.class,
                    () -> x.draw(0, 0, 11, 7, 1, 1, colour));
            Check.same("9 stays", x.screen(0, 11, 7), 0);
        }
    }

    private static void windowsFrom0To5() {
        Remotepane x = Scene.sessions(2);
        Check.fails("3 none at first", NO_SUCH, () -> x.show(0, 0, true));
        for (int number = 0; number < 6; number++) {
            final int next = number + 1;
            Check.same("3 the next number", x.openWindow(0, 0, 0, 1, 1), number);
            Check.fails("3 none beyond", NO_SUCH, () -> x.show(0, next, true));
        }
        Check.fails("3 6 are the most", STATE, () -> x.openWindow(0, 0, 0, 1, 1));
        for (int number = 0; number < 6; number++) {
            Check.same("3 another session has its own", x.openWindow(1, 0, 0, 1, 1), number);
        }
        for (int number = 0; number < 6; number++) {
            Check.same("4 was shown", x.closeWindow(0, number), true);
            Check.fails("3 it had 6, though " + number + " are closed", STATE,
                    () -> x.openWindow(0, 0, 0, 1, 1));
        }
        Check.same("4 the other session's are open", x.closeWindow(1, 5), true);
    }

    private static void closedOnesKeepTheirNumbers() {
        Remotepane x = Scene.sessions(1);
        Scene.window(x, 0, 0, 1, 1, 10);
        Scene.window(x, 1, 0, 1, 1, 11);
        x.closeWindow(0, 0);
        Check.same("3 not the number of the closed one", Scene.window(x, 2, 0, 1, 1, 12), 2);
        Check.same("3 the second is still the second", x.draw(0, 1, 0, 0, 1, 1, 13), 1);
        Check.same("3 it is drawn", x.screen(0, 1, 0), 13);
        Check.same("3 not the third", x.screen(0, 2, 0), 12);
        Check.fails("4 closed: close", NO_SUCH, () -> x.closeWindow(0, 0));
        Check.fails("5 closed: move", NO_SUCH, () -> x.moveWindow(0, 0, 0, 0));
        Check.fails("6 closed: raise", NO_SUCH, () -> x.raise(0, 0));
        Check.fails("7 closed: show", NO_SUCH, () -> x.show(0, 0, true));
        Check.fails("8 closed: mark", NO_SUCH, () -> x.mark(0, 0, true, true));
        Check.fails("9 closed: draw", NO_SUCH, () -> x.draw(0, 0, 0, 0, 1, 1, 1));
        Check.same("4 it stays away", x.screen(0, 0, 0), 0);
    }

    /** Column, row, width, height, and the column, row, width and height of what is on the screen. */
    private static final int[][] PLACES = {
        {0, 0, 12, 8, 0, 0, 12, 8}, {1, 0, 12, 8, 1, 0, 11, 8}, {0, 1, 12, 8, 0, 1, 12, 7},
        {-1, 0, 12, 8, 0, 0, 11, 8}, {0, -1, 12, 8, 0, 0, 12, 7}, {-5, -5, 12, 8, 0, 0, 7, 3},
        {11, 7, 12, 8, 11, 7, 1, 1}, {-5, 7, 12, 8, 0, 7, 7, 1}, {11, -5, 12, 8, 11, 0, 1, 3},
        {11, 7, 1, 1, 11, 7, 1, 1}, {0, 0, 1, 1, 0, 0, 1, 1}, {-5, 0, 6, 1, 0, 0, 1, 1},
        {0, -5, 1, 6, 0, 0, 1, 1}, {-5, -5, 6, 6, 0, 0, 1, 1}, {-5, 0, 5, 8, 0, 0, 0, 0},
        {0, -5, 12, 5, 0, 0, 0, 0}, {-5, -5, 1, 1, 0, 0, 0, 0}, {-1, 3, 1, 1, 0, 0, 0, 0},
        {3, -1, 1, 1, 0, 0, 0, 0}};

    private static void windowsBeyondTheScreen() {
        for (int[] p : PLACES) {
            Remotepane opened = Scene.sessions(1);
            Scene.window(opened, p[0], p[1], p[2], p[3], 9);
            onlyThere(opened, p);
            Remotepane moved = Scene.sessions(1);
            Scene.window(moved, -5, -5, p[2], p[3], 9);
            moved.show(0, 0, false);
            moved.moveWindow(0, 0, p[0], p[1]);
            moved.show(0, 0, true);
            onlyThere(moved, p);
        }
    }

    private static void onlyThere(Remotepane x, int[] p) {
        int wrong = 0;
        for (int cell = 0; cell < 96; cell++) {
            int column = cell % 12 - p[4];
            int row = cell / 12 - p[5];
            boolean isDue = column >= 0 && column < p[6] && row >= 0 && row < p[7];
            wrong += x.screen(0, cell % 12, cell / 12) == (isDue ? 9 : 0) ? 0 : 1;
        }
        Check.same("3 window at " + p[0] + ", " + p[1] + " of " + p[2] + " x " + p[3], wrong, 0);
    }

    private static void cellsOfAWindowBeyondTheScreen() {
        Remotepane x = Scene.sessions(1);
        x.openWindow(0, -5, -5, 12, 8);
        for (int cell = 0; cell < 96; cell++) {
            x.draw(0, 0, cell % 12, cell / 12, 1, 1, 100 + cell);
        }
        Check.same("3 its cell 5, 5 is the first of the screen", x.screen(0, 0, 0), 165);
        Check.same("3 its last one", x.screen(0, 6, 2), 195);
        Check.same("3 nothing behind it", x.screen(0, 7, 2), 0);
        Check.same("5 all that come", x.moveWindow(0, 0, 11, 7), 21 + 1);
        Check.same("3 its first one is the last of the screen", x.screen(0, 11, 7), 100);
        x.moveWindow(0, 0, 0, 0);
        Check.same("3 what was beyond is still there", x.screen(0, 11, 0), 111);
        Check.same("3 what was beyond is still there", x.screen(0, 0, 7), 184);
    }

    private static void leastAndGreatestWindow() {
        Remotepane x = Scene.sessions(1);
        x.openWindow(0, 4, 4, 1, 1);
        Check.same("3 the least has one cell", x.draw(0, 0, 0, 0, 12, 8, 5), 1);
        x.openWindow(0, 0, 0, 12, 8);
        Check.same("3 the greatest has 96", x.draw(0, 1, 0, 0, 12, 8, 6), 96);
        x.openWindow(0, 0, 0, 12, 1);
        Check.same("3 a row", x.draw(0, 2, 0, 0, 12, 8, 7), 12);
        x.openWindow(0, 0, 0, 1, 8);
        Check.same("3 a column", x.draw(0, 3, 0, 0, 12, 8, 8), 8);
    }

    private static void newWindowCoversWith0() {
        Remotepane x = Scene.sessions(1);
        Scene.window(x, 0, 0, 12, 8, 9);
        x.join(0, 0);
        x.tick(1);
        x.openWindow(0, 11, 7, 12, 8);
        Check.same("3 its cells are 0", x.screen(0, 11, 7), 0);
        Check.same("3 beside it", x.screen(0, 10, 7), 9);
        Check.same("16 a client is behind by it", x.behind(0), 1);
        x.openWindow(0, -5, -5, 12, 8);
        Check.same("16 and by another one", x.behind(0), 22);
        x.openWindow(0, -5, -5, 5, 5);
        Check.same("16 not by one beyond the screen", x.behind(0), 22);
        Check.same("34 consistent", x.isConsistent(), true);
    }

    private static void topmostShownOfSix() {
        Remotepane x = Scene.sessions(1);
        for (int i = 0; i < 6; i++) {
            Scene.window(x, 3, 3, 1, 1, 50 + i);
            Check.same("3 the last one that was opened", x.screen(0, 3, 3), 50 + i);
        }
        for (int i = 5; i >= 0; i--) {
            Check.same("10 the topmost one", x.screen(0, 3, 3), 50 + i);
            x.show(0, i, false);
        }
        Check.same("10 none is shown", x.screen(0, 3, 3), 0);
        for (int i = 0; i < 6; i++) {
            x.show(0, i, true);
            Check.same("7 the topmost one again", x.screen(0, 3, 3), 50 + i);
        }
        for (int i = 5; i >= 0; i--) {
            Check.same("10 the topmost one", x.screen(0, 3, 3), 50 + i);
            x.closeWindow(0, i);
        }
        Check.same("10 none is open", x.screen(0, 3, 3), 0);
    }

    private static void hiddenOnesKeepTheirPlaces() {
        Remotepane x = Scene.sessions(1);
        for (int i = 0; i < 3; i++) {
            Scene.window(x, 0, 0, 1, 1, 50 + i);
        }
        x.show(0, 1, false);
        Check.same("6 the lowest comes over the hidden one", x.raise(0, 0), true);
        x.show(0, 1, true);
        Check.same("7 shown, it is not raised", x.screen(0, 0, 0), 50);
        x.closeWindow(0, 0);
        Check.same("7 it is still under the last one", x.screen(0, 0, 0), 52);
        x.show(0, 2, false);
        Check.same("7 and over nothing", x.screen(0, 0, 0), 51);
        Check.same("6 raised over a hidden one", x.raise(0, 1), true);
        x.show(0, 2, true);
        Check.same("6 which is lower now", x.screen(0, 0, 0), 51);
        x.show(0, 1, false);
        x.moveWindow(0, 1, 5, 5);
        x.show(0, 1, true);
        Check.same("5 a hidden one is moved", x.screen(0, 5, 5), 51);
    }

    private static void onlyOpenedOrRaisedComesOnTop() {
        Remotepane x = Scene.sessions(1);
        Scene.window(x, 0, 0, 1, 1, 50);
        Scene.window(x, 0, 0, 1, 1, 51);
        x.moveWindow(0, 0, 5, 5);
        Check.same("5 moved back, only the cell that it leaves is another one",
                x.moveWindow(0, 0, 0, 0), 1);
        Check.same("5 it is under the other one", x.screen(0, 0, 0), 51);
        x.draw(0, 0, 0, 0, 1, 1, 52);
        Check.same("9 drawn in, it is not on top", x.screen(0, 0, 0), 51);
        x.mark(0, 0, true, true);
        Check.same("8 nor marked", x.screen(0, 0, 0), 51);
        x.show(0, 0, true);
        Check.same("7 nor shown once more", x.screen(0, 0, 0), 51);
        x.join(0, 9);
        x.type(0, 'a');
        x.tick(1);
        Check.same("21 what is typed goes to the other one", x.screen(0, 0, 0), 101);
        Check.same("6 it was not on top", x.raise(0, 0), true);
        Check.same("6 now it is", x.screen(0, 0, 0), 52);
    }

    private static void raisedOneByOne() {
        Remotepane x = Scene.sessions(1);
        for (int i = 0; i < 6; i++) {
            Scene.window(x, 0, 0, 1, 1, 50 + i);
        }
        for (int i = 0; i < 6; i++) {
            Check.same("6 was not on top", x.raise(0, i), true);
            Check.same("6 is on top", x.screen(0, 0, 0), 50 + i);
            Check.same("6 was there", x.raise(0, i), false);
        }
        for (int i = 5; i >= 0; i--) {
            Check.same("6 in their order again", x.screen(0, 0, 0), 50 + i);
            x.closeWindow(0, i);
        }
    }

    private static void raisedAlone() {
        Remotepane x = Scene.sessions(2);
        x.openWindow(0, 0, 0, 1, 1);
        Check.same("6 the only one is on top", x.raise(0, 0), false);
        x.openWindow(1, 0, 0, 1, 1);
        Check.same("6 one of another session is on nothing", x.raise(0, 0), false);
        x.openWindow(0, 11, 7, 1, 1);
        Check.same("6 one elsewhere on the screen is above it", x.raise(0, 0), true);
        x.openWindow(0, -5, -5, 1, 1);
        Check.same("6 one beyond the screen too", x.raise(0, 0), true);
    }

    private static void closedOrHiddenAtTheTop() {
        Remotepane x = Scene.sessions(1);
        x.openWindow(0, 0, 0, 1, 1);
        x.openWindow(0, 0, 0, 1, 1);
        x.show(0, 1, false);
        Check.same("6 a hidden one was on top", x.raise(0, 0), true);
        x.raise(0, 1);
        x.closeWindow(0, 1);
        Check.same("6 a closed one is not on top", x.raise(0, 0), false);
        x.show(0, 0, false);
        Check.same("6 hidden, but on top", x.raise(0, 0), false);
        Check.same("6 it stays hidden", x.show(0, 0, true), false);
    }

    private static void movedByCells() {
        Remotepane x = Scene.desktop();
        for (int cell = 0; cell < 96; cell++) {
            Scene.dot(x, cell % 12, cell / 12, 1 + (cell % 12 + cell / 12) % 2);
        }
        Check.same("5 to where it is: none", x.moveWindow(0, 0, 0, 0), 0);
        Check.same("5 every cell is another one", x.moveWindow(0, 0, 1, 0), 96);
        Check.same("5 and back", x.moveWindow(0, 0, 0, 0), 96);
        Check.same("5 by two: only those that it leaves", x.moveWindow(0, 0, 2, 0), 16);
        Check.same("5 from the one end to the other", x.moveWindow(0, 0, 11, 7), 79);
        Check.same("5 the last one stayed", x.screen(0, 11, 7), 1);
        Remotepane y = Scene.desktop();
        Check.same("5 of the colour 0: none", y.moveWindow(0, 0, 5, 5), 0);
    }

    private static void movedWithoutASight() {
        Remotepane x = Scene.sessions(1);
        Scene.window(x, 0, 0, 2, 2, 5);
        Scene.window(x, 4, 0, 2, 2, 5);
        x.show(0, 0, false);
        Check.same("5 hidden: none", x.moveWindow(0, 0, 8, 0), 0);
        x.show(0, 0, true);
        Check.same("5 under one of its colour: those that it leaves", x.moveWindow(0, 0, 4, 0), 4);
        Check.same("5 from under it: those to which it comes", x.moveWindow(0, 0, 3, 0), 2);
        x.moveWindow(0, 0, -2, 0);
        Check.same("5 from beyond to beyond: none", x.moveWindow(0, 0, -5, 7), 0);
        Check.same("5 its corner comes", x.moveWindow(0, 0, -1, -1), 1);
    }

    private static void shownAndHidden() {
        Remotepane x = Scene.sessions(1);
        Scene.window(x, 0, 0, 1, 1, 5);
        Check.same("7 a new one was shown", x.show(0, 0, true), true);
        Check.same("7 and is", x.screen(0, 0, 0), 5);
        Check.same("7 then hidden", x.show(0, 0, false), true);
        Check.same("7 twice", x.show(0, 0, false), false);
        Check.same("7 it is not seen", x.screen(0, 0, 0), 0);
        Check.same("7 shown again", x.show(0, 0, true), false);
        Check.same("7 with its cells", x.screen(0, 0, 0), 5);
    }

    private static void markedInAllWays() {
        for (int was = 0; was < 4; was++) {
            for (int is = 0; is < 4; is++) {
                Remotepane x = Scene.desktop();
                Check.same("8 a new one has neither", x.mark(0, 0, was > 1, was % 2 == 1), was != 0);
                Check.same("8 from " + was + " to " + is, x.mark(0, 0, is > 1, is % 2 == 1), was != is);
                Check.same("8 again", x.mark(0, 0, is > 1, is % 2 == 1), false);
            }
        }
    }

    private static void drawnAsFarAsInTheWindow() {
        Remotepane x = Scene.sessions(1);
        x.openWindow(0, 0, 0, 12, 8);
        Check.same("9 the last cell alone", x.draw(0, 0, 11, 7, 12, 8, 1), 1);
        Check.same("9 the last column", x.draw(0, 0, 11, 0, 12, 8, 2), 8);
        Check.same("9 the last row", x.draw(0, 0, 0, 7, 12, 8, 3), 12);
        Check.same("9 all but the first column and row", x.draw(0, 0, 1, 1, 12, 8, 4), 77);
        Check.same("9 the first cell is not drawn", x.screen(0, 0, 0), 0);
        x.openWindow(0, 4, 4, 3, 2);
        Check.same("9 its last cell", x.draw(0, 1, 2, 1, 12, 8, 5), 1);
        Check.same("9 the column behind it", x.draw(0, 1, 3, 0, 12, 8, 6), 0);
        Check.same("9 the row beneath it", x.draw(0, 1, 0, 2, 12, 8, 6), 0);
        Check.same("9 the farthest", x.draw(0, 1, 11, 7, 12, 8, 6), 0);
        Check.same("9 a part of it", x.draw(0, 1, 1, 0, 1, 1, 6), 1);
        Check.same("9 beside the window nothing was drawn", Scene.screenRow(x, 0, 4),
                new String(new char[] {'.', 4, 4, 4, '.', 6, '.', 4, 4, 4, 4, 4}));
        Check.same("9 nor beneath it", x.screen(0, 6, 6), 4);
    }

    private static void drawnBeyondTheScreen() {
        Remotepane x = Scene.sessions(1);
        x.openWindow(0, -5, -5, 5, 5);
        Check.same("9 cells of the window count, not of the screen", x.draw(0, 0, 0, 0, 12, 8, 5), 25);
        Check.same("9 none is on the screen", Scene.colouredCells(x, 0), 0);
        Check.same("5 all of them come", x.moveWindow(0, 0, 0, 0), 25);
        Scene.window(x, 0, 0, 12, 8, 6);
        Check.same("9 covered ones count too", x.draw(0, 0, 0, 0, 5, 5, 7), 25);
        x.show(0, 0, false);
        Check.same("9 hidden ones too", x.draw(0, 0, 0, 0, 5, 1, 8), 5);
    }

    private static void drawnWhereItIsSo() {
        Remotepane x = Scene.desktop();
        Check.same("9 0 on 0: none are others", x.draw(0, 0, 0, 0, 12, 8, 0), 0);
        Check.same("9 all", x.draw(0, 0, 0, 0, 12, 8, 255), 96);
        Check.same("9 none", x.draw(0, 0, 0, 0, 12, 8, 255), 0);
        Check.same("9 one", x.draw(0, 0, 6, 3, 1, 1, 254), 1);
        Check.same("9 the other ones", x.draw(0, 0, 0, 0, 12, 8, 254), 95);
    }

    private static void closedAndShown() {
        Remotepane x = Scene.sessions(1);
        for (int i = 0; i < 3; i++) {
            x.openWindow(0, -5, -5, 1, 1);
        }
        x.show(0, 1, false);
        Check.same("4 was shown, though beyond the screen", x.closeWindow(0, 0), true);
        Check.same("4 was hidden", x.closeWindow(0, 1), false);
        x.openWindow(0, -5, -5, 12, 8);
        Check.same("4 was shown, though covered", x.closeWindow(0, 2), true);
        x.show(0, 3, false);
        x.show(0, 3, true);
        Check.same("4 was shown again", x.closeWindow(0, 3), true);
    }
}
