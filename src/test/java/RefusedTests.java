import java.util.HashMap;
import java.util.Map;
import java.util.NoSuchElementException;

/**
 * Every call that is refused: what it throws, of several that hold the one that is listed first, and
 * that it changes nothing. For the last, two objects come to the same state, one of them is refused
 * the call, and then everything that can be asked, and done further on, is compared. For each number
 * that has a range, its least and its greatest are taken, and the next one beyond each is refused.
 */
public final class RefusedTests {
    private static final Class<IndexOutOfBoundsException> NO_SUCH = IndexOutOfBoundsException.class;
    private static final Class<IllegalArgumentException> RANGE = IllegalArgumentException.class;
    private static final Class<IllegalStateException> STATE = IllegalStateException.class;
    private static final Class<NoSuchElementException> NONE = NoSuchElementException.class;
    private static final Class<UnsupportedOperationException> DENIED =
            UnsupportedOperationException.class;
    private static final Class<ArithmeticException> NO_MEAN = ArithmeticException.class;
    private static final int MOST_CALLS = 512;
    /** More than any room takes to be filled. */
    private static final int FILLING = 70;
    private static final int MIN = Integer.MIN_VALUE;
    private static final int MAX = Integer.MAX_VALUE;

    interface Call {
        Object on(Remotepane x);
    }

    interface NumberCall {
        Object on(Remotepane x, int number);
    }

    interface CellCall {
        Object on(Remotepane x, int column, int row);
    }

    /** An object, what it has answered, and how often it was called. */
    private static final class Asked {
        final Remotepane x = new Remotepane();
        final StringBuilder answers = new StringBuilder();
        int calls;

        void ask(Call call) {
            calls++;
            answers.append(Check.answerOf(() -> call.on(x))).append(' ');
        }
    }

    /** A state to which each object comes anew, by the same calls. */
    private abstract static class Room {
        final int sessions;
        final int clients;
        final Map<Integer, String> untouched = new HashMap<>();

        Room(int sessions, int clients) {
            this.sessions = sessions;
            this.clients = clients;
        }

        abstract void fill(Remotepane x);

        /** Two probes for all, then two for each client, then two for each session. */
        int probes() {
            return 2 + 2 * clients + 2 * sessions;
        }

        void probe(int number, Asked a) {
            if (number == 0) {
                askNumbers(this, a);
                askHidden(this, a);
            } else if (number == 1) {
                goOn(this, a);
            } else if (number < 2 + 2 * clients) {
                int client = (number - 2) / 2;
                boolean isSeen = number % 2 == 1;
                askCells(a, (x, column, row) -> isSeen
                        ? x.seen(client, column, row) : x.picture(client, column, row));
            } else {
                int session = (number - 2 - 2 * clients) / 2;
                if (number % 2 == 0) {
                    askCells(a, (x, column, row) -> x.screen(session, column, row));
                } else {
                    askPlayed(session, a);
                }
            }
        }

        String untouchedAnswers(int probe) {
            if (!untouched.containsKey(probe)) {
                Asked a = new Asked();
                fill(a.x);
                probe(probe, a);
                untouched.put(probe, a.answers.toString());
            }
            return untouched.get(probe);
        }
    }

    /** Nothing was done yet. */
    private static final class Empty extends Room {
        Empty() {
            super(0, 0);
        }

        void fill(Remotepane x) {
        }
    }

    /** Two sessions, of which one has no window and the other one a hidden one; nothing else. */
    private static final class Bare extends Room {
        Bare() {
            super(2, 2);
        }

        void fill(Remotepane x) {
            x.openSession();
            x.openSession();
            x.openWindow(1, 0, 0, 3, 3);
            x.show(1, 0, false);
            x.join(0, 4);
            x.join(1, 5);
        }
    }

    /** Two sessions in the midst of everything; the window 3 of the first one is closed. */
    private static final class Used extends Room {
        Used() {
            super(2, 3);
        }

        void fill(Remotepane x) {
            x.openSession();
            x.openSession();
            x.openWindow(0, 0, 0, 12, 8);
            x.openWindow(0, 2, 1, 4, 3);
            x.openWindow(0, 8, 5, 6, 6);
            x.openWindow(0, 1, 1, 2, 2);
            x.openWindow(1, -2, -2, 8, 8);
            x.draw(0, 0, 0, 0, 12, 4, 3);
            x.draw(0, 1, 0, 0, 4, 2, 9);
            x.draw(0, 2, 1, 1, 3, 3, 200);
            x.draw(1, 0, 0, 0, 8, 7, 8);
            x.mark(0, 1, true, false);
            x.mark(1, 0, false, true);
            x.join(0, 5);
            x.join(0, 2);
            x.join(1, 9);
            x.allow(0, 1, 1, true);
            x.allow(1, 0, 0, true);
            x.copy(0, 1, 42);
            x.paste(0, 1);
            x.copy(0, 0, 43);
            x.record(0);
            x.move(1);
            x.tick(9);
            x.type(0, 'a');
            x.type(1, 'b');
            x.type(2, 'c');
            x.tick(1);
            x.move(0);
            x.tick(2);
            x.closeWindow(0, 3);
            x.show(0, 2, false);
            x.draw(0, 0, 0, 0, 2, 8, 77);
            x.draw(0, 0, 5, 2, 7, 2, 78);
            x.draw(1, 0, 4, 4, 3, 2, 79);
            x.type(0, 'd');
            x.type(1, 'e');
            x.type(2, 'f');
        }
    }

    /** Sessions, windows, clients and keys, as many as there can be; the window 4 is closed. */
    private static final class Full extends Room {
        Full() {
            super(4, 6);
        }

        void fill(Remotepane x) {
            for (int session = 0; session < 4; session++) {
                x.openSession();
            }
            for (int window = 0; window < 6; window++) {
                x.openWindow(0, window, window, 4, 3);
                x.draw(0, window, 0, 0, 4, 3, 10 + window);
            }
            x.closeWindow(0, 4);
            for (int client = 0; client < 6; client++) {
                x.join(client == 5 ? 1 : 0, client);
            }
            x.tick(1);
            x.move(0);
            for (int key = 0; key < 20; key++) {
                x.type(key % 5, (char) ('a' + key));
            }
            x.draw(0, 5, 0, 0, 2, 2, 99);
        }
    }

    /** As full, but all windows are hidden. */
    private static final class FullAndHidden extends Room {
        FullAndHidden() {
            super(4, 6);
        }

        void fill(Remotepane x) {
            new Full().fill(x);
            for (int window = 0; window < 6; window++) {
                if (window != 4) {
                    x.show(0, window, false);
                }
            }
        }
    }

    private static void askNumbers(Room room, Asked a) {
        for (int i = 0; i < room.clients; i++) {
            final int client = i;
            a.ask(x -> x.behind(client));
            a.ask(x -> x.money(client));
            a.ask(x -> x.next(client));
            a.ask(x -> x.nextCost(client));
            a.ask(x -> x.guesses(client));
            a.ask(x -> x.rightShare(client));
        }
        for (int i = 0; i < room.sessions; i++) {
            final int session = i;
            a.ask(x -> x.left(session));
            a.ask(x -> x.host(session));
            a.ask(x -> x.noted(session));
        }
        a.ask(x -> x.carried());
        a.ask(x -> x.meanBehind());
        a.ask(x -> x.isConsistent());
    }

    /** What is only told by calls that change it. */
    private static void askHidden(Room room, Asked a) {
        for (int i = 0; i < room.clients; i++) {
            final int client = i;
            a.ask(x -> x.bid(client, 1));
        }
        for (int way = 0; way < 12; way++) {
            final int from = way / 3;
            final int to = (from + 1 + way % 3) % 4;
            a.ask(x -> x.paste(from, to));
        }
        for (int way = 0; way < 36; way++) {
            final int from = way / 9;
            final int to = (from + 1 + way / 3 % 3) % 4;
            final int kind = way % 3;
            a.ask(x -> x.allow(from, to, kind, true));
        }
        for (int i = 0; i < room.sessions; i++) {
            final int session = i;
            a.ask(x -> x.copy(session, 0, 1));
            for (int w = 0; w < 6; w++) {
                final int window = w;
                a.ask(x -> x.mark(session, window, true, true));
                a.ask(x -> x.raise(session, window));
                a.ask(x -> x.show(session, window, true));
                a.ask(x -> x.draw(session, window, 0, 0, 12, 8, 3));
            }
            a.ask(x -> x.record(session));
            a.ask(x -> x.openWindow(session, 1, 1, 2, 2));
        }
        a.ask(x -> x.join(0, 0));
        a.ask(x -> x.openSession());
    }

    private static void goOn(Room room, Asked a) {
        a.ask(x -> x.tick(1));
        askNumbers(room, a);
        for (int i = 0; i < room.sessions; i++) {
            final int session = i;
            a.ask(x -> x.moveWindow(session, 0, 1, 0));
            a.ask(x -> x.show(session, 0, true));
        }
        for (int i = 0; i < room.clients; i++) {
            final int client = i;
            a.ask(x -> x.type(client, 'y'));
        }
        a.ask(x -> x.tick(2));
        askNumbers(room, a);
        askCells(a, (x, column, row) -> x.screen(0, column, row));
        a.ask(x -> x.tick(20));
        askNumbers(room, a);
    }

    private static void askCells(Asked a, CellCall call) {
        for (int cell = 0; cell < 96; cell++) {
            final int column = cell % 12;
            final int row = cell / 12;
            a.ask(x -> call.on(x, column, row));
        }
    }

    private static void askPlayed(int session, Asked a) {
        for (int i = 1; i <= 14; i++) {
            final int tick = i;
            a.ask(x -> x.played(session, tick, 3, 2));
            a.ask(x -> x.played(session, tick, 0, 0));
        }
        askCells(a, (x, column, row) -> x.played(session, 12, column, row));
    }

    private static final Room EMPTY = new Empty();
    private static final Room BARE = new Bare();
    private static final Room USED = new Used();
    private static final Room FULL = new Full();
    private static final Room FULL_AND_HIDDEN = new FullAndHidden();

    /** The call is refused, and all that is asked behind it is as if it had not been made. */
    private static void refused(String what, Room room, Class<? extends Throwable> due, Call call) {
        for (int probe = 0; probe < room.probes(); probe++) {
            Asked a = new Asked();
            room.fill(a.x);
            Check.fails(what, due, () -> call.on(a.x));
            room.probe(probe, a);
            Check.same(what + " changes nothing", a.answers.toString(), room.untouchedAnswers(probe));
            Check.same(what + " by few calls", FILLING + a.calls <= MOST_CALLS, true);
        }
    }

    private static void taken(String what, Call call) {
        Asked a = new Asked();
        USED.fill(a.x);
        String answer = Check.answerOf(() -> call.on(a.x));
        Check.same(what + ": " + answer, answer.startsWith("throws"), false);
    }

    /** The numbers from the least to the greatest are allowed, and none beyond. */
    private static void numbers(String what, int least, int most, NumberCall call) {
        for (int number : new int[] {least, most}) {
            taken(what + " " + number, x -> call.on(x, number));
        }
        for (int number : new int[] {MIN, least - 1, most + 1, MAX}) {
            refused(what + " " + number, USED, RANGE, x -> call.on(x, number));
        }
    }

    private static void noSuch(String what, int[] wrong, NumberCall call) {
        for (int number : wrong) {
            refused(what + " " + number, USED, NO_SUCH, x -> call.on(x, number));
        }
    }

    private static void sessions(String what, NumberCall call) {
        noSuch(what + ", session", new int[] {MIN, -1, 2, 3, 4, MAX}, call);
        refused(what + ", session 0 of none", EMPTY, NO_SUCH, x -> call.on(x, 0));
        refused(what + ", session 4 of 4", FULL, NO_SUCH, x -> call.on(x, 4));
    }

    private static void windows(String what, NumberCall call) {
        noSuch(what + ", window", new int[] {MIN, -1, 3, 4, 5, 6, MAX}, call);
        refused(what + ", window 0 of none", BARE, NO_SUCH, x -> call.on(x, 0));
        refused(what + ", window 4, closed, of 6", FULL, NO_SUCH, x -> call.on(x, 4));
        refused(what + ", window 6 of 6", FULL, NO_SUCH, x -> call.on(x, 6));
    }

    private static void clients(String what, NumberCall call) {
        noSuch(what + ", client", new int[] {MIN, -1, 3, 4, 5, 6, MAX}, call);
        refused(what + ", client 0 of none", EMPTY, NO_SUCH, x -> call.on(x, 0));
        refused(what + ", client 6 of 6", FULL, NO_SUCH, x -> call.on(x, 6));
    }

    private static void cells(String what, CellCall call) {
        int[][] there = {{0, 0}, {11, 0}, {0, 7}, {11, 7}};
        for (int[] cell : there) {
            taken(what + " " + cell[0] + ", " + cell[1], x -> call.on(x, cell[0], cell[1]));
        }
        int[][] beyond = {{-1, 0}, {-1, 1}, {12, 0}, {12, 7}, {0, -1}, {11, -1}, {0, 8}, {11, 8},
            {MIN, 0}, {MAX, 0}, {0, MIN}, {0, MAX}};
        for (int[] cell : beyond) {
            refused(what + " " + cell[0] + ", " + cell[1], USED, NO_SUCH,
                    x -> call.on(x, cell[0], cell[1]));
        }
    }

    public static void main(String[] args) {
        openSession();
        openWindow();
        closeWindow();
        moveWindow();
        raiseShowAndMark();
        draw();
        looks();
        join();
        bid();
        nextAndItsCost();
        tick();
        type();
        rightShare();
        copy();
        allow();
        paste();
        moving();
        recordings();
        meanBehind();
        Check.end();
    }

    private static void openSession() {
        refused("2 a fifth session", FULL, STATE, x -> x.openSession());
    }

    private static void openWindow() {
        sessions("3 openWindow", (x, n) -> x.openWindow(n, 0, 0, 1, 1));
        numbers("3 column", -5, 11, (x, n) -> x.openWindow(0, n, 0, 1, 1));
        numbers("3 row", -5, 7, (x, n) -> x.openWindow(0, 0, n, 1, 1));
        numbers("3 width", 1, 12, (x, n) -> x.openWindow(0, 0, 0, n, 1));
        numbers("3 height", 1, 8, (x, n) -> x.openWindow(0, 0, 0, 1, n));
        refused("3 a seventh window", FULL, STATE, x -> x.openWindow(0, 0, 0, 1, 1));
        refused("3 session ahead of column", USED, NO_SUCH, x -> x.openWindow(2, 12, 0, 1, 1));
        refused("3 session ahead of height", USED, NO_SUCH, x -> x.openWindow(-1, 0, 0, 1, 9));
        refused("3 column ahead of 6", FULL, RANGE, x -> x.openWindow(0, -6, 0, 1, 1));
        refused("3 row ahead of 6", FULL, RANGE, x -> x.openWindow(0, 0, 8, 1, 1));
        refused("3 width ahead of 6", FULL, RANGE, x -> x.openWindow(0, 0, 0, 13, 1));
        refused("3 height ahead of 6", FULL, RANGE, x -> x.openWindow(0, 0, 0, 1, 0));
    }

    private static void closeWindow() {
        sessions("4 closeWindow", (x, n) -> x.closeWindow(n, 0));
        windows("4 closeWindow", (x, n) -> x.closeWindow(0, n));
    }

    private static void moveWindow() {
        sessions("5 moveWindow", (x, n) -> x.moveWindow(n, 0, 1, 1));
        windows("5 moveWindow", (x, n) -> x.moveWindow(0, n, 1, 1));
        numbers("5 column", -5, 11, (x, n) -> x.moveWindow(0, 1, n, 0));
        numbers("5 row", -5, 7, (x, n) -> x.moveWindow(0, 1, 0, n));
        refused("5 session ahead of column", USED, NO_SUCH, x -> x.moveWindow(2, 0, 12, 0));
        refused("5 closed ahead of row", USED, NO_SUCH, x -> x.moveWindow(0, 3, 0, 8));
        refused("5 no window ahead of row", USED, NO_SUCH, x -> x.moveWindow(0, 6, 0, -6));
    }

    private static void raiseShowAndMark() {
        sessions("6 raise", (x, n) -> x.raise(n, 0));
        windows("6 raise", (x, n) -> x.raise(0, n));
        sessions("7 show", (x, n) -> x.show(n, 0, false));
        windows("7 show", (x, n) -> x.show(0, n, false));
        windows("7 show it", (x, n) -> x.show(0, n, true));
        sessions("8 mark", (x, n) -> x.mark(n, 0, true, true));
        windows("8 mark", (x, n) -> x.mark(0, n, true, true));
    }

    private static void draw() {
        sessions("9 draw", (x, n) -> x.draw(n, 0, 0, 0, 1, 1, 5));
        windows("9 draw", (x, n) -> x.draw(0, n, 0, 0, 1, 1, 5));
        numbers("9 column", 0, 11, (x, n) -> x.draw(0, 0, n, 0, 1, 1, 5));
        numbers("9 row", 0, 7, (x, n) -> x.draw(0, 0, 0, n, 1, 1, 5));
        numbers("9 width", 1, 12, (x, n) -> x.draw(0, 0, 0, 0, n, 1, 5));
        numbers("9 height", 1, 8, (x, n) -> x.draw(0, 0, 0, 0, 1, n, 5));
        numbers("9 colour", 0, 255, (x, n) -> x.draw(0, 0, 0, 0, 1, 1, n));
        refused("9 session ahead of colour", USED, NO_SUCH, x -> x.draw(2, 0, 0, 0, 1, 1, 256));
        refused("9 closed ahead of column", USED, NO_SUCH, x -> x.draw(0, 3, 12, 0, 1, 1, 5));
        refused("9 no window ahead of width", USED, NO_SUCH, x -> x.draw(0, 6, 0, 0, 0, 1, 5));
    }

    private static void looks() {
        sessions("10 screen", (x, n) -> x.screen(n, 0, 0));
        cells("10 screen", (x, column, row) -> x.screen(0, column, row));
        clients("13 money", (x, n) -> x.money(n));
        clients("14 picture", (x, n) -> x.picture(n, 0, 0));
        cells("14 picture", (x, column, row) -> x.picture(0, column, row));
        clients("15 seen", (x, n) -> x.seen(n, 0, 0));
        cells("15 seen", (x, column, row) -> x.seen(0, column, row));
        clients("16 behind", (x, n) -> x.behind(n));
        clients("22 guesses", (x, n) -> x.guesses(n));
    }

    private static void join() {
        sessions("11 join", (x, n) -> x.join(n, 0));
        numbers("11 bid", 0, 9, (x, n) -> x.join(0, n));
        refused("11 a seventh client", FULL, STATE, x -> x.join(0, 0));
        refused("11 a seventh, of another session", FULL, STATE, x -> x.join(3, 9));
        refused("11 session ahead of bid", USED, NO_SUCH, x -> x.join(2, 10));
        refused("11 session ahead of 6", FULL, NO_SUCH, x -> x.join(-1, 0));
        refused("11 bid ahead of 6", FULL, RANGE, x -> x.join(0, -1));
        refused("11 session ahead of both", FULL, NO_SUCH, x -> x.join(4, 10));
    }

    private static void bid() {
        clients("12 bid", (x, n) -> x.bid(n, 0));
        numbers("12 bid", 0, 9, (x, n) -> x.bid(0, n));
        refused("12 client ahead of bid", USED, NO_SUCH, x -> x.bid(3, 10));
    }

    private static void nextAndItsCost() {
        clients("17 next", (x, n) -> x.next(n));
        refused("17 not behind", BARE, NONE, x -> x.next(0));
        refused("17 not behind, other session", BARE, NONE, x -> x.next(1));
        clients("18 nextCost", (x, n) -> x.nextCost(n));
        refused("18 not behind", BARE, NONE, x -> x.nextCost(0));
        refused("18 not behind, other session", BARE, NONE, x -> x.nextCost(1));
    }

    private static void tick() {
        numbers("19 tick", 1, 20, (x, n) -> x.tick(n));
        refused("19 no tick of nothing", EMPTY, RANGE, x -> x.tick(0));
    }

    private static void type() {
        clients("21 type", (x, n) -> x.type(n, 'a'));
        for (char letter : new char[] {'a', 'z'}) {
            taken("21 letter " + letter, x -> x.type(0, letter));
        }
        for (char letter : new char[] {0, ' ', '0', 'A', 'Z', '`', '{', 127, 225, 353, 65535}) {
            refused("21 letter " + (int) letter, USED, RANGE, x -> x.type(0, letter));
        }
        refused("21 no window", BARE, DENIED, x -> x.type(0, 'a'));
        refused("21 no window that is shown", BARE, DENIED, x -> x.type(1, 'a'));
        refused("21 20 keys wait", FULL, STATE, x -> x.type(0, 'a'));
        refused("21 20 keys wait, for another client", FULL, STATE, x -> x.type(4, 'z'));
        refused("21 client ahead of letter", USED, NO_SUCH, x -> x.type(3, '{'));
        refused("21 letter ahead of window", BARE, RANGE, x -> x.type(0, '{'));
        refused("21 letter ahead of 20 keys", FULL, RANGE, x -> x.type(0, '`'));
        refused("21 window ahead of 20 keys", FULL_AND_HIDDEN, DENIED, x -> x.type(0, 'a'));
        refused("21 letter ahead of all", FULL_AND_HIDDEN, RANGE, x -> x.type(0, 'A'));
    }

    private static void rightShare() {
        clients("23 rightShare", (x, n) -> x.rightShare(n));
        refused("23 none was typed", BARE, NO_MEAN, x -> x.rightShare(0));
        refused("23 none is gone", FULL, NO_MEAN, x -> x.rightShare(0));
    }

    private static void copy() {
        sessions("24 copy", (x, n) -> x.copy(n, 0, 0));
        numbers("24 kind", 0, 2, (x, n) -> x.copy(0, n, 5));
        numbers("24 content", 0, 9999, (x, n) -> x.copy(0, 2, n));
        refused("24 session ahead of kind", USED, NO_SUCH, x -> x.copy(2, 3, 0));
        refused("24 session ahead of content", USED, NO_SUCH, x -> x.copy(2, 0, -1));
    }

    private static void allow() {
        sessions("25 allow from", (x, n) -> x.allow(n, 0, 2, true));
        sessions("25 allow to", (x, n) -> x.allow(0, n, 2, true));
        numbers("25 kind", 0, 2, (x, n) -> x.allow(0, 1, n, true));
        refused("25 both the same", USED, RANGE, x -> x.allow(0, 0, 1, true));
        refused("25 both the same", USED, RANGE, x -> x.allow(1, 1, 1, false));
        refused("25 from ahead of kind", USED, NO_SUCH, x -> x.allow(2, 0, 3, true));
        refused("25 to ahead of kind", USED, NO_SUCH, x -> x.allow(0, 2, -1, true));
        refused("25 none of both, the same", USED, NO_SUCH, x -> x.allow(2, 2, 0, true));
    }

    private static void paste() {
        sessions("26 paste from", (x, n) -> x.paste(n, 0));
        sessions("26 paste to", (x, n) -> x.paste(0, n));
        refused("26 both the same", USED, NO_SUCH, x -> x.paste(0, 0));
        refused("26 no content", BARE, NONE, x -> x.paste(0, 1));
        refused("26 no right", USED, DENIED, x -> x.paste(0, 1));
        refused("26 no right, the other way", USED, DENIED, x -> x.paste(1, 0));
        refused("26 no session to, ahead of no content", BARE, NO_SUCH, x -> x.paste(0, 2));
        refused("26 the same, ahead of no content", BARE, NO_SUCH, x -> x.paste(1, 1));
        refused("26 no session to, ahead of no right", USED, NO_SUCH, x -> x.paste(1, 3));
    }

    private static void moving() {
        sessions("27 move", (x, n) -> x.move(n));
        refused("27 is moving", USED, STATE, x -> x.move(0));
        refused("27 is moving, no row copied yet", FULL, STATE, x -> x.move(0));
        sessions("28 left", (x, n) -> x.left(n));
        refused("28 never moved", BARE, STATE, x -> x.left(0));
        refused("28 has moved", USED, STATE, x -> x.left(1));
        sessions("29 host", (x, n) -> x.host(n));
    }

    private static void recordings() {
        sessions("30 record", (x, n) -> x.record(n));
        sessions("31 played", (x, n) -> x.played(n, 1, 0, 0));
        cells("31 played", (x, column, row) -> x.played(0, 12, column, row));
        taken("31 tick 1", x -> x.played(0, 1, 0, 0));
        taken("31 tick 12", x -> x.played(0, 12, 0, 0));
        for (int tick : new int[] {MIN, -1, 0, 13, 60, 61, MAX}) {
            refused("31 tick " + tick, USED, NONE, x -> x.played(0, tick, 0, 0));
        }
        refused("31 no recording", USED, NONE, x -> x.played(1, 1, 0, 0));
        refused("31 no recording", BARE, NONE, x -> x.played(0, 0, 0, 0));
        refused("31 session ahead of tick", USED, NO_SUCH, x -> x.played(2, 0, 0, 0));
        refused("31 cell ahead of tick", USED, NO_SUCH, x -> x.played(0, 13, 12, 0));
        refused("31 cell ahead of no recording", USED, NO_SUCH, x -> x.played(1, 1, 0, 8));
        sessions("32 noted", (x, n) -> x.noted(n));
        refused("32 no recording", USED, NONE, x -> x.noted(1));
    }

    private static void meanBehind() {
        refused("33 no clients", EMPTY, NO_MEAN, x -> x.meanBehind());
        Remotepane x = Scene.sessions(4);
        Check.fails("33 sessions, but no clients", NO_MEAN, x::meanBehind);
    }
}
