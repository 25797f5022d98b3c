import java.lang.reflect.Field;
import java.util.NoSuchElementException;

/** Promises 27 to 34: moving, recordings, the mean and the invariants. */
public final class RecordingTests {
    private static final Class<IndexOutOfBoundsException> NO_SUCH = IndexOutOfBoundsException.class;
    private static final Class<IllegalStateException> STATE = IllegalStateException.class;
    private static final Class<NoSuchElementException> NONE = NoSuchElementException.class;

    public static void main(String[] args) throws Exception {
        promise27Move();
        promise28Left();
        promise28RowsThatChange();
        promise28AheadOfAllElse();
        promise29Host();
        promise29KeysWait();
        promise30Record();
        promise31Played();
        promise31Secret();
        promise31AtMost60();
        promise32Noted();
        promise33MeanBehind();
        promise34IsConsistent();
        promise34BrokenStates();
        Check.end();
    }

    private static Remotepane withDesktop() {
        Remotepane x = new Remotepane();
        x.openSession();
        x.openWindow(0, 0, 0, 12, 8);
        return x;
    }

    private static void row(Remotepane x, int row, int colour) {
        x.draw(0, 0, 0, row, 12, 1, colour);
    }

    private static void promise27Move() {
        Remotepane x = withDesktop();
        x.openSession();
        Check.same("27 not before", x.move(0), false);
        Check.fails("27 is moving", STATE, () -> x.move(0));
        Check.fails("27 no session", NO_SUCH, () -> x.move(2));
        Check.fails("27 session -1", NO_SUCH, () -> x.move(-1));
        Check.same("27 another one", x.move(1), false);
        x.tick(6);
        Check.fails("27 still moving", STATE, () -> x.move(0));
        x.tick(1);
        Check.same("27 has moved", x.move(0), true);
        Check.same("27 all rows again", x.left(0), 8);
        Check.fails("27 is moving again", STATE, () -> x.move(0));
    }

    private static void promise28Left() {
        Remotepane x = withDesktop();
        Check.fails("28 not moving", STATE, () -> x.left(0));
        Check.fails("28 no session", NO_SUCH, () -> x.left(1));
        Check.fails("28 session -1", NO_SUCH, () -> x.left(-1));
        x.move(0);
        Check.same("28 all", x.left(0), 8);
        for (int left = 7; left >= 2; left--) {
            x.tick(1);
            Check.same("28 a row a tick", x.left(0), left);
        }
        Check.same("28 not done with 2 left", x.host(0), 0);
        x.tick(1);
        Check.fails("28 done", STATE, () -> x.left(0));
        Check.same("28 done", x.host(0), 1);
    }

    private static void promise28RowsThatChange() {
        Remotepane x = withDesktop();
        x.move(0);
        x.tick(3);
        row(x, 1, 5);
        Check.same("28 another one than then", x.left(0), 6);
        x.draw(0, 0, 11, 2, 1, 1, 9);
        Check.same("28 by its last cell", x.left(0), 7);
        x.draw(0, 0, 0, 0, 1, 1, 9);
        Check.same("28 by its first cell", x.left(0), 8);
        x.draw(0, 0, 0, 0, 1, 1, 0);
        Check.same("28 as it was again", x.left(0), 7);
        row(x, 7, 5);
        Check.same("28 was not copied yet", x.left(0), 7);
        x.tick(4);
        Check.same("28 first those that were not copied", x.left(0), 3);
        row(x, 1, 0);
        Check.same("28 the second is as it was", x.left(0), 2);
        row(x, 1, 5);
        x.tick(1);
        Check.same("28 the last of them", x.left(0), 2);
        row(x, 0, 5);
        x.tick(1);
        // The rows 0, 1 and 2 were left: that with the lowest number is copied.
        Check.same("28 then those that are others", x.left(0), 2);
        row(x, 0, 0);
        Check.same("28 it was the row 0", x.left(0), 3);
        row(x, 0, 5);
        row(x, 3, 5);
        x.tick(1);
        row(x, 1, 0);
        Check.same("28 the lowest that was left, though not the first", x.left(0), 3);
        row(x, 1, 5);
        x.tick(1);
        Check.same("28 done", x.host(0), 1);
    }

    private static void promise28AheadOfAllElse() {
        Remotepane x = withDesktop();
        x.join(0, 0);
        x.move(0);
        x.type(0, 'a');
        x.tick(1);
        Check.same("28 the row 0 was copied ahead of the key", x.left(0), 8);
        x.tick(20);
        Check.same("28 done at last", x.host(0), 1);
    }

    private static void promise29Host() {
        Remotepane x = withDesktop();
        x.openSession();
        Check.same("29 none", x.host(0), 0);
        x.move(0);
        Check.same("29 only begun", x.host(0), 0);
        x.tick(7);
        Check.same("29 one", x.host(0), 1);
        x.tick(20);
        Check.same("29 no more", x.host(0), 1);
        x.move(0);
        x.tick(20);
        Check.same("29 two", x.host(0), 2);
        Check.same("29 of its own", x.host(1), 0);
        Check.fails("29 no session", NO_SUCH, () -> x.host(2));
        Check.fails("29 session -1", NO_SUCH, () -> x.host(-1));
    }

    private static void promise29KeysWait() {
        Remotepane x = withDesktop();
        x.openSession();
        x.openWindow(1, 0, 0, 12, 8);
        x.join(0, 0);
        x.join(1, 0);
        x.move(0);
        x.tick(6);
        x.type(0, 'a');
        x.type(1, 'b');
        x.record(0);
        x.tick(1);
        Check.same("29 done", x.host(0), 1);
        Check.same("29 the key waits", x.guesses(0), 1);
        Check.same("29 and is not done", x.screen(0, 0, 0), 0);
        Check.same("29 that of another session is", x.screen(1, 0, 0), 102);
        Check.same("29 it is recorded, though", x.record(0), 1);
        Check.same("29 it counts with the next one", x.type(0, 'c'), 2);
        x.tick(1);
        Check.same("29 then it is", x.screen(0, 0, 0), 101);
        Check.same("29 in their order", x.screen(0, 1, 0), 103);
        Check.same("29 right", x.rightShare(0), 1.0);
    }

    private static void promise30Record() {
        Remotepane x = withDesktop();
        Check.same("30 none before", x.record(0), 0);
        Check.same("30 no ticks before", x.record(0), 0);
        row(x, 0, 3);
        x.tick(5);
        Check.same("30 five", x.record(0), 5);
        Check.fails("30 a new one", NONE, () -> x.played(0, 1, 0, 0));
        Check.same("30 has noted nothing", x.noted(0), 0);
        x.tick(1);
        Check.same("30 from 0 on", x.noted(0), 12);
        Check.same("30 one", x.record(0), 1);
        Check.fails("30 no session", NO_SUCH, () -> x.record(1));
        Check.fails("30 session -1", NO_SUCH, () -> x.record(-1));
    }

    private static void promise31Played() {
        Remotepane x = withDesktop();
        x.join(0, 0);
        Check.fails("31 no recording", NONE, () -> x.played(0, 1, 0, 0));
        Check.fails("31 no session", NO_SUCH, () -> x.played(1, 1, 0, 0));
        Check.fails("31 no cell is first", NO_SUCH, () -> x.played(0, 1, 12, 0));
        row(x, 0, 3);
        x.tick(2);
        x.record(0);
        Check.fails("31 no tick", NONE, () -> x.played(0, 1, 0, 0));
        Check.fails("31 the tick 0", NONE, () -> x.played(0, 0, 0, 0));
        x.tick(1);
        row(x, 0, 4);
        Check.same("31 as it was then", x.played(0, 1, 11, 0), 3);
        row(x, 0, 5);
        x.type(0, 'a');
        x.tick(1);
        Check.same("31 behind the keys", x.played(0, 2, 0, 0), 101);
        Check.same("31 only the ends of ticks", x.played(0, 2, 1, 0), 5);
        x.closeWindow(0, 0);
        x.tick(2);
        Check.same("31 the first", x.played(0, 1, 0, 0), 3);
        Check.same("31 the second", x.played(0, 2, 0, 0), 101);
        Check.same("31 the third", x.played(0, 3, 0, 0), 0);
        Check.same("31 the last", x.played(0, 4, 0, 0), 0);
        Check.same("31 the last cell", x.played(0, 1, 11, 7), 0);
        x.openWindow(0, 11, 7, 1, 1);
        x.draw(0, 1, 0, 0, 1, 1, 8);
        x.tick(1);
        Check.same("31 the fifth", x.played(0, 5, 11, 7), 8);
        Check.same("31 back again", x.played(0, 4, 11, 7), 0);
        x.closeWindow(0, 1);
        Check.fails("31 not so many", NONE, () -> x.played(0, 6, 0, 0));
        Check.fails("31 less than 1", NONE, () -> x.played(0, 0, 0, 0));
        Check.fails("31 less than 1", NONE, () -> x.played(0, -1, 0, 0));
        Check.fails("31 far too many", NONE, () -> x.played(0, Integer.MAX_VALUE, 0, 0));
        Check.fails("31 column -1", NO_SUCH, () -> x.played(0, 0, -1, 1));
        Check.fails("31 column 12", NO_SUCH, () -> x.played(0, 0, 12, 0));
        Check.fails("31 row -1", NO_SUCH, () -> x.played(0, 0, 11, -1));
        Check.fails("31 row 8", NO_SUCH, () -> x.played(0, 0, 0, 8));
    }

    private static void promise31Secret() {
        Remotepane x = withDesktop();
        row(x, 0, 3);
        x.openWindow(0, 2, 0, 2, 1);
        x.draw(0, 1, 0, 0, 2, 1, 9);
        x.openWindow(0, 3, 0, 2, 1);
        x.mark(0, 1, true, false);
        x.record(0);
        x.tick(1);
        Check.same("31 secret", x.played(0, 1, 2, 0), 255);
        Check.same("31 covered by one that is not", x.played(0, 1, 3, 0), 0);
        Check.same("31 no window of it", x.played(0, 1, 5, 0), 3);
        Check.same("31 the screen shows it", x.screen(0, 2, 0), 9);
        x.show(0, 1, false);
        x.tick(1);
        Check.same("31 hidden", x.played(0, 2, 2, 0), 3);
        Check.same("31 what was is blacked out", x.played(0, 1, 2, 0), 255);
        x.mark(0, 0, true, false);
        x.show(0, 1, true);
        x.mark(0, 1, false, false);
        x.tick(1);
        Check.same("31 above a secret one", x.played(0, 3, 2, 0), 9);
        Check.same("31 secret in all its cells", x.played(0, 3, 11, 7), 255);
        x.closeWindow(0, 0);
        x.tick(1);
        Check.same("31 closed", x.played(0, 4, 11, 7), 0);
    }

    private static void promise31AtMost60() {
        Remotepane x = withDesktop();
        x.record(0);
        x.tick(20);
        x.tick(20);
        x.tick(19);
        row(x, 0, 1);
        x.tick(1);
        row(x, 0, 2);
        x.tick(20);
        Check.same("31 the 59th", x.played(0, 59, 0, 0), 0);
        Check.same("31 the 60th", x.played(0, 60, 0, 0), 1);
        Check.fails("31 no 61st", NONE, () -> x.played(0, 61, 0, 0));
        Check.same("31 nothing noted behind it", x.noted(0), 12);
        Check.same("31 consistent", x.isConsistent(), true);
        Check.same("31 60", x.record(0), 60);
        x.tick(1);
        Check.same("31 begins anew", x.played(0, 1, 0, 0), 2);
        // All cells others in each of 60 ticks is the most there is to note.
        x.record(0);
        for (int i = 1; i <= 62; i++) {
            x.draw(0, 0, 0, 0, 12, 8, i);
            x.tick(1);
        }
        Check.same("31 all of it", x.noted(0), 60 * 96);
        Check.same("31 all of it", x.played(0, 60, 11, 7), 60);
        Check.same("31 consistent", x.isConsistent(), true);
    }

    private static void promise32Noted() {
        Remotepane x = withDesktop();
        Check.fails("32 none", NONE, () -> x.noted(0));
        Check.fails("32 no session", NO_SUCH, () -> x.noted(1));
        Check.fails("32 session -1", NO_SUCH, () -> x.noted(-1));
        row(x, 0, 3);
        x.record(0);
        Check.same("32 nothing yet", x.noted(0), 0);
        x.tick(1);
        Check.same("32 others than 0", x.noted(0), 12);
        x.tick(3);
        Check.same("32 no others", x.noted(0), 12);
        row(x, 0, 4);
        row(x, 0, 3);
        x.tick(1);
        Check.same("32 as at the end of the tick before", x.noted(0), 12);
        x.mark(0, 0, true, false);
        x.tick(1);
        Check.same("32 all are secret", x.noted(0), 108);
        row(x, 0, 4);
        x.tick(1);
        Check.same("32 what is under is not noted", x.noted(0), 108);
        x.draw(0, 0, 0, 1, 12, 7, 255);
        x.mark(0, 0, false, false);
        x.tick(1);
        Check.same("32 those of 255 are not others", x.noted(0), 120);
    }

    private static void promise33MeanBehind() {
        Remotepane x = withDesktop();
        Check.fails("33 none", ArithmeticException.class, x::meanBehind);
        x.join(0, 0);
        Check.same("33 none behind", x.meanBehind(), 0.0);
        x.openSession();
        x.join(1, 0);
        x.join(1, 0);
        row(x, 0, 5);
        Check.same("33 twelve by three", x.meanBehind(), 4.0);
        x.draw(0, 0, 0, 1, 1, 1, 5);
        Check.same("33 thirteen by three", x.meanBehind(), 13.0 / 3.0);
    }

    private static void promise34IsConsistent() {
        Remotepane x = new Remotepane();
        Check.same("34 new", x.isConsistent(), true);
        x.openSession();
        x.record(0);
        Check.same("34 a recording without ticks", x.isConsistent(), true);
        x.openWindow(0, -2, -2, 12, 8);
        x.draw(0, 0, 0, 0, 12, 8, 255);
        x.join(0, 9);
        x.tick(20);
        x.mark(0, 0, true, true);
        x.type(0, 'q');
        x.tick(1);
        x.closeWindow(0, 0);
        Check.same("34 used", x.isConsistent(), true);
        x.tick(1);
        Check.same("34 used", x.isConsistent(), true);
    }

    /** It is of no use to ask for what can't be false: each invariant is broken from outside. */
    private static void promise34BrokenStates() throws Exception {
        Remotepane x = withDesktop();
        x.join(0, 9);
        x.record(0);
        x.tick(2);
        Object session = ((Object[]) field(x, "sessions")[0])[0];
        Object client = ((Object[]) field(x, "clients")[0])[0];
        int[] colours = (int[]) field(session, "colours")[0];
        for (int cell : new int[] {0, 50, 95}) {
            colours[cell] = 1;
            Check.same("34 a screen that is not of its windows", x.isConsistent(), false);
            colours[cell] = 0;
        }
        Check.same("34 mended", x.isConsistent(), true);
        int[] look = (int[]) field(field(session, "recording")[0], "lastLook")[0];
        for (int cell : new int[] {0, 50, 95}) {
            look[cell] = 1;
            Check.same("34 a recording that plays another picture", x.isConsistent(), false);
            look[cell] = 0;
        }
        Field money = client.getClass().getDeclaredField("money");
        money.setAccessible(true);
        for (int amount : new int[] {-1, 61}) {
            money.setInt(client, amount);
            Check.same("34 money " + amount, x.isConsistent(), false);
        }
        for (int amount : new int[] {0, 60}) {
            money.setInt(client, amount);
            Check.same("34 money " + amount, x.isConsistent(), true);
        }
    }

    private static Object[] field(Object owner, String name) throws Exception {
        Field field = owner.getClass().getDeclaredField(name);
        field.setAccessible(true);
        return new Object[] {field.get(owner)};
    }
}
