import java.util.NoSuchElementException;

/** Promises 21 to 26: typing and clipboards. */
public final class TypingTests {
    private static final Class<IndexOutOfBoundsException> NO_SUCH = IndexOutOfBoundsException.class;
    private static final Class<IllegalArgumentException> RANGE = IllegalArgumentException.class;
    private static final Class<IllegalStateException> STATE = IllegalStateException.class;
    private static final Class<UnsupportedOperationException> DENIED =
            UnsupportedOperationException.class;
    private static final Class<NoSuchElementException> NONE = NoSuchElementException.class;

    public static void main(String[] args) {
        promise21Type();
        promise21Refused();
        promise21IntoTheTopmostShown();
        promise21CaretGoesRound();
        promise21SilentAndClosed();
        promise21KeysOfOthersCount();
        promise22Guesses();
        promise23RightShare();
        promise23JustBehindItsKey();
        promise23OnTheScreen();
        promise24Copy();
        promise25Allow();
        promise26Paste();
        promise26TheWholeWay();
        promise26Refused();
        Check.end();
    }

    private static Remotepane withClient() {
        Remotepane x = new Remotepane();
        x.openSession();
        x.join(0, 1);
        return x;
    }

    private static void promise21Type() {
        Remotepane x = withClient();
        x.join(0, 1);
        x.openWindow(0, 1, 1, 2, 2);
        Check.same("21 one", x.type(0, 'a'), 1);
        Check.same("21 two, of another client", x.type(1, 'z'), 2);
        Check.same("21 not done yet", x.screen(0, 1, 1), 0);
        x.tick(1);
        Check.same("21 a is 101", x.screen(0, 1, 1), 101);
        Check.same("21 z is 126", x.screen(0, 2, 1), 126);
        Check.same("21 none waits", x.type(0, 'm'), 1);
        x.tick(1);
        Check.same("21 row by row", x.screen(0, 1, 2), 113);
        Check.same("21 done behind the line", x.picture(0, 1, 2), 0);
        x.tick(1);
        Check.same("21 sent in the tick after", x.picture(0, 1, 2), 113);
    }

    private static void promise21Refused() {
        Remotepane x = withClient();
        Check.fails("21 no client", NO_SUCH, () -> x.type(1, 'a'));
        Check.fails("21 client -1", NO_SUCH, () -> x.type(-1, 'a'));
        Check.fails("21 no client is first", NO_SUCH, () -> x.type(1, 'A'));
        Check.fails("21 below a", RANGE, () -> x.type(0, '`'));
        Check.fails("21 above z", RANGE, () -> x.type(0, '{'));
        Check.fails("21 another sign", RANGE, () -> x.type(0, (char) 65535));
        Check.fails("21 no window", DENIED, () -> x.type(0, 'a'));
        x.openWindow(0, 0, 0, 12, 8);
        x.show(0, 0, false);
        Check.fails("21 none is shown", DENIED, () -> x.type(0, 'a'));
        Check.same("21 nothing waits", x.guesses(0), 0);
        x.show(0, 0, true);
        for (int i = 1; i <= 20; i++) {
            Check.same("21 waits", x.type(0, 'b'), i);
        }
        Check.fails("21 20 wait", STATE, () -> x.type(0, 'a'));
        Check.fails("21 the letter is ahead of 20", RANGE, () -> x.type(0, 'A'));
        x.show(0, 0, false);
        Check.fails("21 no window is ahead of 20", DENIED, () -> x.type(0, 'a'));
        x.show(0, 0, true);
        x.openSession();
        x.openWindow(1, 0, 0, 1, 1);
        x.join(1, 0);
        Check.same("21 another session has its own keys", x.type(1, 'a'), 1);
        x.tick(1);
        Check.same("21 all are done", x.screen(0, 7, 1), 102);
        Check.same("21 none more", x.screen(0, 8, 1), 0);
        Check.same("21 room again", x.type(0, 'a'), 1);
    }

    private static void promise21IntoTheTopmostShown() {
        Remotepane x = withClient();
        x.openWindow(0, 0, 0, 1, 1);
        x.openWindow(0, 1, 0, 1, 1);
        x.openWindow(0, -5, -5, 1, 1);
        x.show(0, 1, false);
        Check.same("21 beyond the screen", x.type(0, 'a'), 1);
        x.raise(0, 0);
        Check.same("21 raised", x.type(0, 'b'), 2);
        x.raise(0, 1);
        Check.same("21 a hidden one is on top", x.type(0, 'c'), 3);
        x.show(0, 1, true);
        Check.same("21 shown now", x.type(0, 'd'), 4);
        x.tick(1);
        Check.same("21 b, then c", x.screen(0, 0, 0), 103);
        Check.same("21 d", x.screen(0, 1, 0), 104);
        x.moveWindow(0, 2, 5, 5);
        Check.same("21 a", x.screen(0, 5, 5), 101);
        x.type(0, 'e');
        x.raise(0, 0);
        x.show(0, 1, false);
        x.tick(1);
        Check.same("21 by the one that was on top then", x.screen(0, 0, 0), 103);
        x.show(0, 1, true);
        Check.same("21 by the one that was on top then", x.screen(0, 1, 0), 105);
    }

    private static void promise21CaretGoesRound() {
        Remotepane x = withClient();
        x.openWindow(0, 2, 2, 3, 2);
        for (char letter = 'a'; letter <= 'e'; letter++) {
            x.type(0, letter);
        }
        x.tick(1);
        Check.same("21 the end of the first row", x.screen(0, 4, 2), 103);
        Check.same("21 the next row", x.screen(0, 2, 3), 104);
        x.type(0, 'f');
        x.type(0, 'g');
        Check.same("21 a guess of the last cell", x.seen(0, 4, 3), 106);
        Check.same("21 a guess of the first one again", x.seen(0, 2, 2), 107);
        x.tick(1);
        Check.same("21 the last cell", x.screen(0, 4, 3), 106);
        Check.same("21 the first one again", x.screen(0, 2, 2), 107);
        Check.same("21 the second stays", x.screen(0, 3, 2), 102);
        x.moveWindow(0, 0, 3, 2);
        x.type(0, 'h');
        x.tick(1);
        Check.same("21 the caret goes with its window", x.screen(0, 4, 2), 108);
    }

    private static void promise21SilentAndClosed() {
        Remotepane x = withClient();
        x.openWindow(0, 0, 0, 3, 1);
        x.mark(0, 0, false, true);
        x.type(0, 'a');
        Check.same("21 a guess shows the letter, though", x.seen(0, 0, 0), 101);
        x.tick(1);
        Check.same("21 silent", x.screen(0, 0, 0), 7);
        x.type(0, 'b');
        x.mark(0, 0, false, false);
        x.tick(1);
        Check.same("21 silent as it is done", x.screen(0, 1, 0), 102);
        x.mark(0, 0, true, false);
        x.type(0, 'c');
        x.tick(1);
        Check.same("21 secret is not silent", x.screen(0, 2, 0), 103);
        x.openWindow(0, 0, 1, 2, 1);
        x.type(0, 'd');
        x.raise(0, 0);
        x.type(0, 'e');
        x.closeWindow(0, 1);
        Check.same("21 keys of a closed one wait", x.type(0, 'f'), 3);
        x.tick(1);
        Check.same("21 do nothing", x.screen(0, 0, 1), 0);
        Check.same("21 the others are done", x.screen(0, 0, 0), 105);
        Check.same("21 the others are done", x.screen(0, 1, 0), 106);
    }

    private static void promise21KeysOfOthersCount() {
        Remotepane x = withClient();
        x.join(0, 1);
        x.openWindow(0, 0, 0, 12, 1);
        x.openWindow(0, 0, 1, 12, 1);
        x.type(1, 'a');
        x.raise(0, 0);
        x.type(1, 'b');
        x.type(0, 'c');
        x.raise(0, 1);
        x.type(0, 'd');
        Check.same("21 behind that of the other one", x.seen(0, 1, 0), 103);
        Check.same("21 keys of another window don't count", x.seen(0, 1, 1), 104);
        Check.same("21 not its own", x.seen(0, 0, 0), 0);
        Check.same("21 of the other client", x.seen(1, 0, 0), 102);
        Check.same("21 of the other client", x.seen(1, 0, 1), 101);
    }

    private static void promise22Guesses() {
        Remotepane x = withClient();
        x.join(0, 1);
        x.openWindow(0, 11, 7, 2, 1);
        Check.same("22 none", x.guesses(0), 0);
        x.type(0, 'a');
        x.type(0, 'b');
        x.type(1, 'c');
        Check.same("22 also beyond the screen", x.guesses(0), 2);
        Check.same("22 its own", x.guesses(1), 1);
        x.closeWindow(0, 0);
        Check.same("22 of a closed window", x.guesses(0), 2);
        x.tick(1);
        Check.same("22 gone", x.guesses(0), 0);
        Check.same("22 gone", x.guesses(1), 0);
        Check.fails("22 no client", NO_SUCH, () -> x.guesses(2));
        Check.fails("22 client -1", NO_SUCH, () -> x.guesses(-1));
    }

    private static void promise23RightShare() {
        Remotepane x = withClient();
        x.join(0, 1);
        Check.fails("23 none is gone", ArithmeticException.class, () -> x.rightShare(0));
        Check.fails("23 no client", NO_SUCH, () -> x.rightShare(2));
        Check.fails("23 client -1", NO_SUCH, () -> x.rightShare(-1));
        x.openWindow(0, 0, 0, 12, 1);
        x.type(0, 'a');
        Check.fails("23 it still waits", ArithmeticException.class, () -> x.rightShare(0));
        x.tick(1);
        Check.same("23 one of one", x.rightShare(0), 1.0);
        Check.fails("23 its own only", ArithmeticException.class, () -> x.rightShare(1));
        x.mark(0, 0, false, true);
        x.type(0, 'a');
        x.tick(1);
        Check.same("23 silent: one of two", x.rightShare(0), 0.5);
        x.type(0, 'a');
        x.closeWindow(0, 0);
        x.tick(1);
        Check.same("23 closed: one of three", x.rightShare(0), 1.0f / 3.0f);
    }

    private static void promise23JustBehindItsKey() {
        Remotepane x = withClient();
        x.openWindow(0, 0, 0, 1, 1);
        x.type(0, 'a');
        x.type(0, 'b');
        x.tick(1);
        Check.same("23 ahead of the next key", x.rightShare(0), 1.0);
        // The key of a window below is done ahead of the one that makes the top like it.
        x.openWindow(0, 0, 0, 1, 1);
        x.raise(0, 0);
        x.type(0, 'c');
        x.raise(0, 1);
        x.type(0, 'c');
        x.tick(1);
        Check.same("23 not what a later key made right", x.rightShare(0), 0.75);
        x.raise(0, 0);
        x.type(0, 'd');
        x.draw(0, 1, 0, 0, 1, 1, 104);
        x.raise(0, 1);
        x.tick(1);
        Check.same("23 covered by the same colour", x.rightShare(0), 4.0f / 5.0f);
    }

    private static void promise23OnTheScreen() {
        Remotepane x = withClient();
        x.openWindow(0, 11, 0, 2, 1);
        x.type(0, 'a');
        x.type(0, 'b');
        x.tick(1);
        Check.same("23 one is beyond the screen", x.rightShare(0), 0.5);
        x.type(0, 'c');
        x.moveWindow(0, 0, -1, 0);
        x.tick(1);
        Check.same("23 moved off the screen", x.rightShare(0), 1.0f / 3.0f);
        x.type(0, 'd');
        x.show(0, 0, false);
        x.tick(1);
        Check.same("23 hidden", x.rightShare(0), 0.25);
        x.show(0, 0, true);
        x.type(0, 'e');
        x.openWindow(0, 0, 0, 12, 8);
        x.draw(0, 1, 0, 0, 12, 8, 105);
        x.closeWindow(0, 0);
        x.tick(1);
        Check.same("23 closed, though the colour is there", x.rightShare(0), 0.2f);
    }

    private static void promise24Copy() {
        Remotepane x = new Remotepane();
        x.openSession();
        x.openSession();
        Check.same("24 none before", x.copy(0, 0, 0), -1);
        Check.same("24 in place of 0", x.copy(0, 2, 9999), 0);
        Check.same("24 of another kind too", x.copy(0, 1, 5), 9999);
        Check.same("24 another session", x.copy(1, 1, 6), -1);
        Check.fails("24 no session", NO_SUCH, () -> x.copy(2, 0, 0));
        Check.fails("24 session -1", NO_SUCH, () -> x.copy(-1, 0, 0));
        Check.fails("24 no session is first", NO_SUCH, () -> x.copy(2, 3, 0));
        Check.fails("24 kind -1", RANGE, () -> x.copy(0, -1, 0));
        Check.fails("24 kind 3", RANGE, () -> x.copy(0, 3, 0));
        Check.fails("24 content -1", RANGE, () -> x.copy(0, 0, -1));
        Check.fails("24 content 10000", RANGE, () -> x.copy(0, 0, 10000));
        Check.same("24 nothing was copied", x.copy(0, 0, 1), 5);
    }

    private static void promise25Allow() {
        Remotepane x = new Remotepane();
        x.openSession();
        x.openSession();
        Check.same("25 not at first", x.allow(0, 1, 0, true), false);
        Check.same("25 could", x.allow(0, 1, 0, true), true);
        Check.same("25 not the other way", x.allow(1, 0, 0, false), false);
        Check.same("25 not another kind", x.allow(0, 1, 1, false), false);
        Check.same("25 not another kind", x.allow(0, 1, 2, false), false);
        Check.same("25 could", x.allow(0, 1, 0, false), true);
        Check.same("25 could no longer", x.allow(0, 1, 0, false), false);
        Check.fails("25 no session from", NO_SUCH, () -> x.allow(2, 0, 0, true));
        Check.fails("25 no session to", NO_SUCH, () -> x.allow(0, 2, 0, true));
        Check.fails("25 from -1", NO_SUCH, () -> x.allow(-1, 0, 0, true));
        Check.fails("25 to -1", NO_SUCH, () -> x.allow(0, -1, 0, true));
        Check.fails("25 no session is first", NO_SUCH, () -> x.allow(2, 2, 3, true));
        Check.fails("25 kind -1", RANGE, () -> x.allow(0, 1, -1, true));
        Check.fails("25 kind 3", RANGE, () -> x.allow(0, 1, 3, true));
        Check.fails("25 the same", RANGE, () -> x.allow(1, 1, 0, true));
    }

    private static void promise26Paste() {
        Remotepane x = new Remotepane();
        x.openSession();
        x.openSession();
        x.copy(0, 1, 77);
        Check.fails("26 no right", DENIED, () -> x.paste(0, 1));
        x.allow(0, 1, 0, true);
        x.allow(1, 0, 1, true);
        Check.fails("26 a right of another kind, and way", DENIED, () -> x.paste(0, 1));
        Check.same("26 nothing came", x.copy(1, 0, 3), -1);
        x.allow(0, 1, 1, true);
        Check.same("26 passes", x.paste(0, 1), 77);
        Check.same("26 it stays where it was", x.copy(0, 0, 5), 77);
        Check.same("26 with its kind, back to where it came from", x.paste(1, 0), 77);
        Check.same("26 it is in the clipboard then", x.copy(1, 0, 8), 77);
        Check.fails("26 a new one has its own kind", DENIED, () -> x.paste(1, 0));
        x.allow(0, 1, 1, false);
        Check.fails("26 the right was taken", DENIED, () -> x.paste(0, 1));
    }

    private static void promise26TheWholeWay() {
        Remotepane x = new Remotepane();
        for (int i = 0; i < 4; i++) {
            x.openSession();
        }
        x.copy(0, 2, 10);
        x.allow(0, 1, 2, true);
        x.allow(1, 2, 2, true);
        x.paste(0, 1);
        Check.fails("26 the first may not pass it there", DENIED, () -> x.paste(1, 2));
        x.allow(0, 2, 2, true);
        Check.same("26 all may", x.paste(1, 2), 10);
        x.allow(2, 3, 2, true);
        x.allow(1, 3, 2, true);
        Check.fails("26 still the first", DENIED, () -> x.paste(2, 3));
        x.allow(0, 3, 2, true);
        x.allow(1, 3, 2, false);
        Check.fails("26 the second too", DENIED, () -> x.paste(2, 3));
        x.allow(2, 0, 2, true);
        Check.fails("26 back, but not for the second", DENIED, () -> x.paste(2, 0));
        x.allow(1, 0, 2, true);
        Check.same("26 back, the first itself is not asked", x.paste(2, 0), 10);
        Check.fails("26 it keeps what it has passed", DENIED, () -> x.paste(0, 3));
        x.copy(0, 2, 11);
        Check.same("26 a new one has passed nothing else", x.paste(0, 3), 11);
    }

    private static void promise26Refused() {
        Remotepane x = new Remotepane();
        x.openSession();
        x.openSession();
        Check.fails("26 no session from", NO_SUCH, () -> x.paste(2, 0));
        Check.fails("26 no session to", NO_SUCH, () -> x.paste(0, 2));
        Check.fails("26 from -1", NO_SUCH, () -> x.paste(-1, 0));
        Check.fails("26 to -1", NO_SUCH, () -> x.paste(0, -1));
        Check.fails("26 the same is ahead of no content", NO_SUCH, () -> x.paste(0, 0));
        Check.fails("26 no content is ahead of no right", NONE, () -> x.paste(0, 1));
        x.copy(0, 0, 4);
        Check.fails("26 the same", NO_SUCH, () -> x.paste(0, 0));
        Check.fails("26 the other has none", NONE, () -> x.paste(1, 0));
    }
}
