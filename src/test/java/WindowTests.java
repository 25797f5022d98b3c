/** Promises 1 to 10: a new object, sessions and windows. */
public final class WindowTests {
    private static final Class<IndexOutOfBoundsException> NO_SUCH = IndexOutOfBoundsException.class;
    private static final Class<IllegalArgumentException> RANGE = IllegalArgumentException.class;
    private static final Class<IllegalStateException> STATE = IllegalStateException.class;

    public static void main(String[] args) {
        promise1NewObject();
        promise2OpenSession();
        promise3OpenWindow();
        promise3WrongNumbers();
        promise4CloseWindow();
        promise5MoveWindow();
        promise5WrongNumbers();
        promise6Raise();
        promise6RaiseAmongHiddenAndClosed();
        promise7Show();
        promise8Mark();
        promise9Draw();
        promise9WrongNumbers();
        promise10Screen();
        Check.end();
    }

    private static Remotepane withSession() {
        Remotepane x = new Remotepane();
        x.openSession();
        return x;
    }

    /** A window of one colour. */
    private static int window(Remotepane x, int column, int row, int width, int height, int colour) {
        int number = x.openWindow(0, column, row, width, height);
        x.draw(0, number, 0, 0, width, height, colour);
        return number;
    }

    private static void promise1NewObject() {
        Remotepane x = new Remotepane();
        Check.fails("1 no session", NO_SUCH, () -> x.screen(0, 0, 0));
        Check.fails("1 no client", NO_SUCH, () -> x.money(0));
        Check.fails("1 no clients to take a mean of", ArithmeticException.class, x::meanBehind);
        Check.same("1 nothing carried", x.carried(), 0);
        Check.same("1 consistent", x.isConsistent(), true);
        Check.same("1 first session", x.openSession(), 0);
        Check.same("1 another object has its own", new Remotepane().openSession(), 0);
    }

    private static void promise2OpenSession() {
        Remotepane x = new Remotepane();
        for (int i = 0; i < 4; i++) {
            final int number = i;
            Check.fails("2 not yet " + i, NO_SUCH, () -> x.screen(number, 0, 0));
            Check.same("2 number", x.openSession(), i);
            Check.same("2 an empty screen", x.screen(i, 11, 7), 0);
        }
        Check.fails("2 a fifth one", STATE, x::openSession);
        Check.fails("2 none came of it", NO_SUCH, () -> x.screen(4, 0, 0));
        x.openWindow(1, 0, 0, 1, 1);
        x.draw(1, 0, 0, 0, 1, 1, 9);
        Check.same("2 sessions are apart", x.screen(0, 0, 0), 0);
        Check.same("2 sessions are apart", x.screen(1, 0, 0), 9);
    }

    private static void promise3OpenWindow() {
        Remotepane x = withSession();
        Check.same("3 first", window(x, 2, 3, 3, 2, 5), 0);
        Check.same("3 its left upper cell", x.screen(0, 2, 3), 5);
        Check.same("3 its right lower cell", x.screen(0, 4, 4), 5);
        Check.same("3 left of it", x.screen(0, 1, 3), 0);
        Check.same("3 right of it", x.screen(0, 5, 3), 0);
        Check.same("3 above it", x.screen(0, 2, 2), 0);
        Check.same("3 below it", x.screen(0, 2, 5), 0);
        Check.same("3 second", x.openWindow(0, 3, 3, 1, 1), 1);
        Check.same("3 is on top with cells of 0", x.screen(0, 3, 3), 0);
        Check.same("3 is shown", x.show(0, 1, true), true);
        Check.same("3 least", x.openWindow(0, -5, -5, 12, 8), 2);
        Check.same("3 beyond the screen", x.draw(0, 2, 0, 0, 12, 8, 6), 96);
        Check.same("3 what is of it on the screen", x.screen(0, 6, 2), 6);
        Check.same("3 and no more", x.screen(0, 7, 2), 0);
        Check.same("3 most", x.openWindow(0, 11, 7, 1, 1), 3);
        Check.same("3 fifth", x.openWindow(0, 11, 7, 12, 8), 4);
        x.closeWindow(0, 4);
        Check.same("3 a closed one keeps its number", x.openWindow(0, 0, 0, 1, 1), 5);
        Check.fails("3 had 6", STATE, () -> x.openWindow(0, 0, 0, 1, 1));
        Check.same("3 the last one is there", x.show(0, 5, true), true);
        Check.fails("3 there is none behind it", NO_SUCH, () -> x.show(0, 6, true));
        x.closeWindow(0, 0);
        Check.fails("3 had 6, closed ones too", STATE, () -> x.openWindow(0, 0, 0, 1, 1));
        Check.same("3 another session", x.openSession(), 1);
        Check.same("3 has its own numbers", x.openWindow(1, 0, 0, 1, 1), 0);
    }

    private static void promise3WrongNumbers() {
        Remotepane x = withSession();
        Check.fails("3 session -1", NO_SUCH, () -> x.openWindow(-1, 0, 0, 1, 1));
        Check.fails("3 session 1", NO_SUCH, () -> x.openWindow(1, 0, 0, 1, 1));
        Check.fails("3 session 4", NO_SUCH, () -> x.openWindow(4, 0, 0, 1, 1));
        Check.fails("3 no session is first", NO_SUCH, () -> x.openWindow(1, -6, 0, 1, 1));
        int[][] wrong = {
            {-6, 0, 1, 1}, {12, 0, 1, 1}, {0, -6, 1, 1}, {0, 8, 1, 1}, {0, 0, 0, 1}, {0, 0, 13, 1},
            {0, 0, 1, 0}, {0, 0, 1, 9}, {Integer.MIN_VALUE, 0, 1, 1}, {0, 0, Integer.MAX_VALUE, 1}};
        for (int[] w : wrong) {
            Check.fails("3 out of range", RANGE, () -> x.openWindow(0, w[0], w[1], w[2], w[3]));
        }
        Check.same("3 none was opened", x.openWindow(0, 0, 0, 1, 1), 0);
        for (int i = 0; i < 5; i++) {
            x.openWindow(0, 0, 0, 1, 1);
        }
        for (int[] w : wrong) {
            Check.fails("3 range is ahead of 6", RANGE, () -> x.openWindow(0, w[0], w[1], w[2], w[3]));
        }
    }

    private static void promise4CloseWindow() {
        Remotepane x = withSession();
        window(x, 0, 0, 2, 2, 1);
        window(x, 1, 1, 2, 2, 2);
        Check.same("4 was shown", x.closeWindow(0, 1), true);
        Check.same("4 the one below is seen", x.screen(0, 1, 1), 1);
        Check.same("4 nothing is left", x.screen(0, 2, 2), 0);
        Check.fails("4 is closed", NO_SUCH, () -> x.closeWindow(0, 1));
        Check.fails("4 never opened", NO_SUCH, () -> x.closeWindow(0, 2));
        Check.fails("4 window -1", NO_SUCH, () -> x.closeWindow(0, -1));
        Check.fails("4 window 6", NO_SUCH, () -> x.closeWindow(0, 6));
        Check.fails("4 no session", NO_SUCH, () -> x.closeWindow(1, 0));
        x.show(0, 0, false);
        Check.same("4 was hidden", x.closeWindow(0, 0), false);
        Check.same("4 empty", x.screen(0, 0, 0), 0);
    }

    private static void promise5MoveWindow() {
        Remotepane x = withSession();
        window(x, 0, 0, 3, 2, 4);
        Check.same("5 one to the right", x.moveWindow(0, 0, 1, 0), 4);
        Check.same("5 left", x.screen(0, 0, 0), 0);
        Check.same("5 come", x.screen(0, 3, 1), 4);
        Check.same("5 not at all", x.moveWindow(0, 0, 1, 0), 0);
        Check.same("5 far away", x.moveWindow(0, 0, 5, 5), 12);
        Check.same("5 beyond, least", x.moveWindow(0, 0, -5, -5), 6);
        Check.same("5 from beyond to beyond", x.moveWindow(0, 0, -4, -5), 0);
        Check.same("5 most", x.moveWindow(0, 0, 11, 7), 1);
        Check.same("5 in the corner", x.screen(0, 11, 7), 4);
        x.show(0, 0, false);
        Check.same("5 hidden", x.moveWindow(0, 0, 2, 2), 0);
        x.show(0, 0, true);
        Check.same("5 but moved", x.screen(0, 2, 2), 4);
        window(x, 0, 0, 12, 8, 4);
        Check.same("5 under another one", x.moveWindow(0, 0, 3, 3), 0);
        Check.same("5 where it shows others", x.moveWindow(0, 1, 1, 0), 8);
    }

    private static void promise5WrongNumbers() {
        Remotepane x = withSession();
        x.openWindow(0, 0, 0, 1, 1);
        Check.fails("5 no session", NO_SUCH, () -> x.moveWindow(1, 0, 0, 0));
        Check.fails("5 no window", NO_SUCH, () -> x.moveWindow(0, 1, 0, 0));
        Check.fails("5 no window is first", NO_SUCH, () -> x.moveWindow(0, 1, 12, 0));
        Check.fails("5 column -6", RANGE, () -> x.moveWindow(0, 0, -6, 0));
        Check.fails("5 column 12", RANGE, () -> x.moveWindow(0, 0, 12, 0));
        Check.fails("5 row -6", RANGE, () -> x.moveWindow(0, 0, 0, -6));
        Check.fails("5 row 8", RANGE, () -> x.moveWindow(0, 0, 0, 8));
        x.draw(0, 0, 0, 0, 1, 1, 3);
        Check.same("5 was not moved", x.screen(0, 0, 0), 3);
        x.closeWindow(0, 0);
        Check.fails("5 closed", NO_SUCH, () -> x.moveWindow(0, 0, 0, 0));
    }

    private static void promise6Raise() {
        Remotepane x = withSession();
        window(x, 0, 0, 2, 1, 1);
        window(x, 0, 0, 2, 1, 2);
        window(x, 1, 0, 2, 1, 3);
        Check.same("6 is on top", x.raise(0, 2), false);
        Check.same("6 the lowest one", x.raise(0, 0), true);
        Check.same("6 is on top now", x.raise(0, 0), false);
        Check.same("6 and seen", x.screen(0, 1, 0), 1);
        x.moveWindow(0, 0, 5, 5);
        Check.same("6 the others keep their order", x.screen(0, 1, 0), 3);
        Check.same("6 the middle one", x.raise(0, 1), true);
        Check.same("6 over the third", x.screen(0, 1, 0), 2);
        Check.fails("6 no session", NO_SUCH, () -> x.raise(1, 0));
        Check.fails("6 no window", NO_SUCH, () -> x.raise(0, 3));
    }

    private static void promise6RaiseAmongHiddenAndClosed() {
        Remotepane x = withSession();
        window(x, 0, 0, 1, 1, 1);
        window(x, 0, 0, 1, 1, 2);
        x.show(0, 1, false);
        Check.same("6 under a hidden one", x.raise(0, 0), true);
        Check.same("6 hidden, and under", x.raise(0, 1), true);
        Check.same("6 hidden, and on top", x.raise(0, 1), false);
        Check.same("6 is still hidden", x.screen(0, 0, 0), 1);
        x.show(0, 1, true);
        Check.same("6 it kept its place", x.screen(0, 0, 0), 2);
        x.closeWindow(0, 1);
        Check.same("6 a closed one is on nothing", x.raise(0, 0), false);
        Check.fails("6 closed", NO_SUCH, () -> x.raise(0, 1));
    }

    private static void promise7Show() {
        Remotepane x = withSession();
        window(x, 0, 0, 2, 2, 1);
        window(x, 0, 0, 2, 2, 2);
        window(x, 1, 1, 2, 2, 3);
        Check.same("7 was shown", x.show(0, 1, false), true);
        Check.same("7 hidden", x.screen(0, 0, 0), 1);
        Check.same("7 was hidden", x.show(0, 1, false), false);
        Check.same("7 was hidden", x.show(0, 1, true), false);
        Check.same("7 is back", x.screen(0, 0, 0), 2);
        Check.same("7 in its place below", x.screen(0, 1, 1), 3);
        Check.same("7 was shown", x.show(0, 1, true), true);
        Check.fails("7 no session", NO_SUCH, () -> x.show(1, 0, true));
        Check.fails("7 no window", NO_SUCH, () -> x.show(0, 3, true));
        x.closeWindow(0, 0);
        Check.fails("7 closed", NO_SUCH, () -> x.show(0, 0, true));
    }

    private static void promise8Mark() {
        Remotepane x = withSession();
        window(x, 0, 0, 1, 1, 4);
        Check.same("8 neither at first", x.mark(0, 0, false, false), false);
        Check.same("8 secret", x.mark(0, 0, true, false), true);
        Check.same("8 the same", x.mark(0, 0, true, false), false);
        Check.same("8 silent too", x.mark(0, 0, true, true), true);
        Check.same("8 no longer secret", x.mark(0, 0, false, true), true);
        Check.same("8 both other", x.mark(0, 0, true, false), true);
        Check.same("8 the screen is as it was", x.screen(0, 0, 0), 4);
        Check.fails("8 no session", NO_SUCH, () -> x.mark(1, 0, true, true));
        Check.fails("8 no window", NO_SUCH, () -> x.mark(0, 1, true, true));
        x.closeWindow(0, 0);
        Check.fails("8 closed", NO_SUCH, () -> x.mark(0, 0, true, true));
    }

    private static void promise9Draw() {
        Remotepane x = withSession();
        x.openWindow(0, 3, 2, 4, 3);
        Check.same("9 a part", x.draw(0, 0, 1, 1, 2, 1, 255), 2);
        Check.same("9 left of it", x.screen(0, 3, 3), 0);
        Check.same("9 first", x.screen(0, 4, 3), 255);
        Check.same("9 last", x.screen(0, 5, 3), 255);
        Check.same("9 right of it", x.screen(0, 6, 3), 0);
        Check.same("9 as far as it is in it", x.draw(0, 0, 2, 1, 12, 8, 8), 4);
        Check.same("9 up to the edge", x.screen(0, 6, 4), 8);
        Check.same("9 not beyond", x.screen(0, 7, 4), 0);
        Check.same("9 the same again", x.draw(0, 0, 2, 1, 12, 8, 8), 0);
        Check.same("9 only some are others", x.draw(0, 0, 0, 0, 4, 3, 8), 8);
        Check.same("9 right of the window", x.draw(0, 0, 4, 0, 1, 1, 1), 0);
        Check.same("9 below the window", x.draw(0, 0, 0, 3, 1, 1, 1), 0);
        Check.same("9 far from the window", x.draw(0, 0, 11, 7, 1, 1, 1), 0);
        x.show(0, 0, false);
        Check.same("9 hidden", x.draw(0, 0, 0, 0, 1, 1, 0), 1);
        Check.same("9 not seen", x.screen(0, 3, 2), 0);
        x.show(0, 0, true);
        Check.same("9 but drawn", x.screen(0, 4, 2), 8);
        Check.same("9 but drawn", x.screen(0, 3, 2), 0);
    }

    private static void promise9WrongNumbers() {
        Remotepane x = withSession();
        x.openWindow(0, 0, 0, 12, 8);
        Check.fails("9 no session", NO_SUCH, () -> x.draw(1, 0, 0, 0, 1, 1, 1));
        Check.fails("9 no window", NO_SUCH, () -> x.draw(0, 1, 0, 0, 1, 1, 1));
        Check.fails("9 no window is first", NO_SUCH, () -> x.draw(0, 1, 12, 0, 1, 1, 1));
        int[][] wrong = {
            {-1, 0, 1, 1, 1}, {12, 0, 1, 1, 1}, {0, -1, 1, 1, 1}, {0, 8, 1, 1, 1}, {0, 0, 0, 1, 1},
            {0, 0, 13, 1, 1}, {0, 0, 1, 0, 1}, {0, 0, 1, 9, 1}, {0, 0, 1, 1, -1}, {0, 0, 1, 1, 256}};
        for (int[] w : wrong) {
            Check.fails("9 out of range", RANGE, () -> x.draw(0, 0, w[0], w[1], w[2], w[3], w[4]));
        }
        Check.same("9 nothing was drawn", x.draw(0, 0, 0, 0, 12, 8, 0), 0);
        x.closeWindow(0, 0);
        Check.fails("9 closed", NO_SUCH, () -> x.draw(0, 0, 0, 0, 1, 1, 1));
    }

    private static void promise10Screen() {
        Remotepane x = withSession();
        window(x, 0, 0, 12, 8, 1);
        window(x, 11, 7, 1, 1, 2);
        Check.same("10 first", x.screen(0, 0, 0), 1);
        Check.same("10 last", x.screen(0, 11, 7), 2);
        Check.same("10 beside the last", x.screen(0, 10, 7), 1);
        Check.fails("10 no session", NO_SUCH, () -> x.screen(1, 0, 0));
        Check.fails("10 session -1", NO_SUCH, () -> x.screen(-1, 0, 0));
        Check.fails("10 column -1", NO_SUCH, () -> x.screen(0, -1, 1));
        Check.fails("10 column 12", NO_SUCH, () -> x.screen(0, 12, 0));
        Check.fails("10 row -1", NO_SUCH, () -> x.screen(0, 11, -1));
        Check.fails("10 row 8", NO_SUCH, () -> x.screen(0, 0, 8));
    }
}
