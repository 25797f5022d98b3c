import java.util.ArrayList;
import java.util.Arrays;
import java.util.NoSuchElementException;

/**
 * A server of desktops seen from afar. README.md tells how to use it; the numbered promises of the
 * document say what each call answers.
 */
public final class Remotepane {
    private static final int COLUMNS = 12;
    private static final int ROWS = 8;
    private static final int CELLS = 96;
    private static final int SESSIONS = 4;
    private static final int WINDOWS = 6;
    private static final int CLIENTS = 6;
    private static final int LEAST_PLACE = -5;
    private static final int MOST_COLOUR = 255;
    private static final int MOST_BID = 9;
    private static final int MOST_MONEY = 60;
    private static final int MOST_TICKS = 20;
    private static final int LINE_UNITS = 24;
    private static final int MOST_KEYS = 20;
    private static final int SILENT_COLOUR = 7;
    private static final int LETTER_COLOUR = 100;
    private static final int KINDS = 3;
    private static final int MOST_CONTENT = 9999;
    private static final int NO_CONTENT = -1;
    private static final int RECORDED_TICKS = 60;
    private static final int SECRET_COLOUR = 255;
    private static final int ROWS_AT_ONCE = 2;
    private static final int NOWHERE = -1;

    private final Session[] sessions;
    private final Client[] clients;
    private final boolean[] rights;
    private long carriedUnits;

    public Remotepane() {
        sessions = new Session[SESSIONS];
        clients = new Client[CLIENTS];
        rights = new boolean[SESSIONS * SESSIONS * KINDS];
        carriedUnits = 0L;
    }

    // ---- sessions and windows

    public int openSession() throws IllegalStateException {
        for (int number = 0; number < SESSIONS; number++) {
            if (sessions[number] == null) {
                sessions[number] = new Session();
                return number;
            }
        }
        throw new IllegalStateException("there are 4 sessions");
    }

    public int openWindow(int session, int column, int row, int width, int height)
            throws IndexOutOfBoundsException, IllegalArgumentException, IllegalStateException {
        Session owner = sessionAt(session);
        if (!isWindowPlace(column, row) || !isSize(width, height)) {
            throw new IllegalArgumentException("a number is out of range");
        }
        if (owner.windowCount >= WINDOWS) {
            throw new IllegalStateException("the session had 6 windows");
        }
        return owner.addWindow(new Window(column, row, width, height));
    }

    public boolean closeWindow(int session, int window) throws IndexOutOfBoundsException {
        Session owner = sessionAt(session);
        Window closed = windowAt(owner, window);
        closed.isOpen = false;
        owner.takeFromPile(closed);
        owner.repaint();
        return closed.isShown;
    }

    public int moveWindow(int session, int window, int column, int row)
            throws IndexOutOfBoundsException, IllegalArgumentException {
        Session owner = sessionAt(session);
        Window moved = windowAt(owner, window);
        if (!isWindowPlace(column, row)) {
            throw new IllegalArgumentException("a number is out of range");
        }
        moved.column = column;
        moved.row = row;
        return owner.repaint();
    }

    public boolean raise(int session, int window) throws IndexOutOfBoundsException {
        Session owner = sessionAt(session);
        Window raised = windowAt(owner, window);
        boolean wasBelow = !owner.isOnTop(raised);
        owner.takeFromPile(raised);
        owner.pile.add(raised);
        owner.repaint();
        return wasBelow;
    }

    public boolean show(int session, int window, boolean isShown) throws IndexOutOfBoundsException {
        Session owner = sessionAt(session);
        Window changed = windowAt(owner, window);
        boolean wasShown = changed.isShown;
        changed.isShown = isShown;
        owner.repaint();
        return wasShown;
    }

    public boolean mark(int session, int window, boolean isSecret, boolean isSilent)
            throws IndexOutOfBoundsException {
        Window marked = windowAt(sessionAt(session), window);
        boolean isOther = marked.isSecret != isSecret || marked.isSilent != isSilent;
        marked.isSecret = isSecret;
        marked.isSilent = isSilent;
        return isOther;
    }

    public int draw(int session, int window, int column, int row, int width, int height, int colour)
            throws IndexOutOfBoundsException, IllegalArgumentException {
        Session owner = sessionAt(session);
        Window drawn = windowAt(owner, window);
        if (!isScreenCell(column, row) || !isSize(width, height)
                || !isWithin(colour, 0, MOST_COLOUR)) {
            throw new IllegalArgumentException("a number is out of range");
        }
        int others = drawn.fillPart(column, row, width, height, colour);
        owner.repaint();
        return others;
    }

    public int screen(int session, int column, int row) throws IndexOutOfBoundsException {
        Session looked = sessionAt(session);
        return looked.colours[screenCell(column, row)];
    }

    // ---- clients and the line

    public int join(int session, int bid)
            throws IndexOutOfBoundsException, IllegalArgumentException, IllegalStateException {
        Session looked = sessionAt(session);
        if (!isWithin(bid, 0, MOST_BID)) {
            throw new IllegalArgumentException("the bid is out of range");
        }
        for (int number = 0; number < CLIENTS; number++) {
            if (clients[number] == null) {
                clients[number] = new Client(looked, bid);
                return number;
            }
        }
        throw new IllegalStateException("there are 6 clients");
    }

    public int bid(int client, int bid) throws IndexOutOfBoundsException, IllegalArgumentException {
        Client bidder = clientAt(client);
        if (!isWithin(bid, 0, MOST_BID)) {
            throw new IllegalArgumentException("the bid is out of range");
        }
        int before = bidder.bid;
        bidder.bid = bid;
        return before;
    }

    public int money(int client) throws IndexOutOfBoundsException {
        return clientAt(client).money;
    }

    public int picture(int client, int column, int row) throws IndexOutOfBoundsException {
        Client looker = clientAt(client);
        return looker.colours[screenCell(column, row)];
    }

    public int seen(int client, int column, int row) throws IndexOutOfBoundsException {
        Client looker = clientAt(client);
        int cell = screenCell(column, row);
        Key guess = looker.session.lastGuessAt(looker, cell);
        return guess == null ? looker.colours[cell] : guess.colour;
    }

    public int behind(int client) throws IndexOutOfBoundsException {
        return clientAt(client).countBehind();
    }

    public char next(int client) throws IndexOutOfBoundsException, NoSuchElementException {
        return nextChange(client).sort;
    }

    public int nextCost(int client) throws IndexOutOfBoundsException, NoSuchElementException {
        return nextChange(client).cost;
    }

    public int tick(int ticks) throws IllegalArgumentException {
        if (!isWithin(ticks, 1, MOST_TICKS)) {
            throw new IllegalArgumentException("the number is out of range");
        }
        int units = 0;
        for (int passed = 0; passed < ticks; passed++) {
            units += passTick();
        }
        carriedUnits += units;
        return units;
    }

    public long carried() {
        return carriedUnits;
    }

    // ---- typing, clipboards

    public int type(int client, char letter)
            throws IndexOutOfBoundsException, IllegalArgumentException,
            UnsupportedOperationException, IllegalStateException {
        Client typist = clientAt(client);
        if (letter < 'a' || letter > 'z') {
            throw new IllegalArgumentException("it is no letter from a to z");
        }
        Session session = typist.session;
        Window window = session.topShown();
        if (window == null) {
            throw new UnsupportedOperationException("no window is shown");
        }
        if (session.keys.size() >= MOST_KEYS) {
            throw new IllegalStateException("20 keys of the session wait");
        }
        int cell = window.cellAhead(session.countKeysOf(window));
        session.keys.add(new Key(typist, window, cell, LETTER_COLOUR + (letter - 'a' + 1)));
        return session.keys.size();
    }

    public int guesses(int client) throws IndexOutOfBoundsException {
        Client typist = clientAt(client);
        return typist.session.countKeysBy(typist);
    }

    public float rightShare(int client) throws IndexOutOfBoundsException, ArithmeticException {
        Client typist = clientAt(client);
        if (typist.goneGuesses <= 0) {
            throw new ArithmeticException("no guess is gone");
        }
        return (float) typist.rightGuesses / (float) typist.goneGuesses;
    }

    public int copy(int session, int kind, int content)
            throws IndexOutOfBoundsException, IllegalArgumentException {
        Clipboard clipboard = sessionAt(session).clipboard;
        if (!isWithin(kind, 0, KINDS - 1) || !isWithin(content, 0, MOST_CONTENT)) {
            throw new IllegalArgumentException("a number is out of range");
        }
        int before = clipboard.content;
        clipboard.hold(content, kind, 1 << session);
        return before;
    }

    public boolean allow(int from, int to, int kind, boolean does)
            throws IndexOutOfBoundsException, IllegalArgumentException {
        if (!isSession(from) || !isSession(to)) {
            throw new IndexOutOfBoundsException("there is no such session");
        }
        if (!isWithin(kind, 0, KINDS - 1) || from == to) {
            throw new IllegalArgumentException("there is no such kind, or both are the same");
        }
        int right = rightNumber(from, to, kind);
        boolean did = rights[right];
        rights[right] = does;
        return did;
    }

    public int paste(int from, int to)
            throws IndexOutOfBoundsException, NoSuchElementException, UnsupportedOperationException {
        Clipboard source = sessionAt(from).clipboard;
        Clipboard target = sessionAt(to).clipboard;
        if (from == to) {
            throw new IndexOutOfBoundsException("both sessions are the same");
        }
        if (source.content == NO_CONTENT) {
            throw new NoSuchElementException("the clipboard has no content");
        }
        if (!canPass(source, to)) {
            throw new UnsupportedOperationException("a session on the way may not pass it");
        }
        target.hold(source.content, source.kind, source.passed | 1 << to);
        return target.content;
    }

    // ---- moving and recordings

    public boolean move(int session) throws IndexOutOfBoundsException, IllegalStateException {
        Transfer transfer = sessionAt(session).transfer;
        if (transfer.isRunning) {
            throw new IllegalStateException("the session is moving");
        }
        transfer.begin();
        return transfer.movesDone > 0;
    }

    public int left(int session) throws IndexOutOfBoundsException, IllegalStateException {
        Session moved = sessionAt(session);
        if (!moved.transfer.isRunning) {
            throw new IllegalStateException("the session is not moving");
        }
        return moved.transfer.countRowsLeft(moved.colours);
    }

    public int host(int session) throws IndexOutOfBoundsException {
        return sessionAt(session).transfer.movesDone;
    }

    public int record(int session) throws IndexOutOfBoundsException {
        Session recorded = sessionAt(session);
        if (recorded.recording == null) {
            recorded.recording = new Recording();
        }
        int before = recorded.recording.ticks;
        recorded.recording.begin();
        return before;
    }

    public int played(int session, int tick, int column, int row)
            throws IndexOutOfBoundsException, NoSuchElementException {
        Recording recording = sessionAt(session).recording;
        int cell = screenCell(column, row);
        if (recording == null || !isWithin(tick, 1, recording.ticks)) {
            throw new NoSuchElementException("there is no recording of such a tick");
        }
        recording.play(tick);
        return recording.shown[cell];
    }

    public int noted(int session) throws IndexOutOfBoundsException, NoSuchElementException {
        Recording recording = sessionAt(session).recording;
        if (recording == null) {
            throw new NoSuchElementException("there is no recording");
        }
        return recording.noteCount;
    }

    public double meanBehind() throws ArithmeticException {
        int sum = 0;
        int count = 0;
        for (Client client : clients) {
            if (client != null) {
                sum += client.countBehind();
                count++;
            }
        }
        if (count == 0) {
            throw new ArithmeticException("there are no clients");
        }
        return (double) sum / (double) count;
    }

    public boolean isConsistent() {
        for (Session session : sessions) {
            if (session != null && !session.isTrue()) {
                return false;
            }
        }
        for (Client client : clients) {
            if (client != null && !isWithin(client.money, 0, MOST_MONEY)) {
                return false;
            }
        }
        return true;
    }

    private static boolean isWithin(int number, int least, int most) {
        return number >= least && number <= most;
    }

    private static boolean isScreenCell(int column, int row) {
        return isWithin(column, 0, COLUMNS - 1) && isWithin(row, 0, ROWS - 1);
    }

    private static boolean isWindowPlace(int column, int row) {
        return isWithin(column, LEAST_PLACE, COLUMNS - 1) && isWithin(row, LEAST_PLACE, ROWS - 1);
    }

    private static boolean isSize(int width, int height) {
        return isWithin(width, 1, COLUMNS) && isWithin(height, 1, ROWS);
    }

    private static int screenCell(int column, int row) {
        if (!isScreenCell(column, row)) {
            throw new IndexOutOfBoundsException("there is no such cell");
        }
        return row * COLUMNS + column;
    }

    private static int rightNumber(int from, int to, int kind) {
        return (from * SESSIONS + to) * KINDS + kind;
    }

    private boolean isSession(int number) {
        return isWithin(number, 0, SESSIONS - 1) && sessions[number] != null;
    }

    private Session sessionAt(int number) {
        if (!isSession(number)) {
            throw new IndexOutOfBoundsException("there is no such session");
        }
        return sessions[number];
    }

    private static Window windowAt(Session session, int number) {
        if (!isWithin(number, 0, session.windowCount - 1)) {
            throw new IndexOutOfBoundsException("there is no such window");
        }
        Window window = session.windows[number];
        if (window == null || !window.isOpen) {
            throw new IndexOutOfBoundsException("there is no such window that is open");
        }
        return window;
    }

    private Client clientAt(int number) {
        if (!isWithin(number, 0, CLIENTS - 1) || clients[number] == null) {
            throw new IndexOutOfBoundsException("there is no such client");
        }
        return clients[number];
    }

    private Change nextChange(int client) {
        Change change = clientAt(client).change;
        change.find();
        if (change.sort == Change.NONE) {
            throw new NoSuchElementException("the client is not behind");
        }
        return change;
    }

    private boolean canPass(Clipboard source, int to) {
        for (int from = 0; from < SESSIONS; from++) {
            boolean hasPassed = (source.passed & 1 << from) != 0;
            if (hasPassed && from != to && !rights[rightNumber(from, to, source.kind)]) {
                return false;
            }
        }
        return true;
    }

    private int passTick() {
        for (Session session : sessions) {
            if (session != null) {
                session.advanceMove();
            }
        }
        int units = runLine();
        for (Session session : sessions) {
            if (session != null) {
                session.doKeys();
                session.lookForRecording();
            }
        }
        return units;
    }

    private int runLine() {
        for (Client client : clients) {
            if (client != null) {
                client.money = Math.min(client.money + client.bid, MOST_MONEY);
                client.change.find();
            }
        }
        int units = LINE_UNITS;
        // No change is free of cost, so there can't be more changes than units.
        for (int sent = 0; sent < LINE_UNITS; sent++) {
            Client client = richestServed(units);
            if (client == null) {
                break;
            }
            Change change = client.change;
            units -= change.cost;
            client.money = Math.max(client.money - change.cost, 0);
            change.apply();
            change.find();
        }
        return LINE_UNITS - units;
    }

    private Client richestServed(int units) {
        Client richest = null;
        for (Client client : clients) {
            if (client != null && client.change.sort != Change.NONE && client.change.cost <= units
                    && (richest == null || client.money > richest.money)) {
                richest = client;
            }
        }
        return richest;
    }

    private static final class Window {
        // Never 0, so that they may divide: openWindow tests both before it makes a window.
        final int width;
        final int height;
        final int[] cells;
        int column;
        int row;
        boolean isOpen;
        boolean isShown;
        boolean isSecret;
        boolean isSilent;
        int caret;

        Window(int column, int row, int width, int height) {
            this.column = column;
            this.row = row;
            this.width = width;
            this.height = height;
            this.cells = new int[width * height];
            this.isOpen = true;
            this.isShown = true;
        }

        boolean covers(int screenColumn, int screenRow) {
            return screenColumn >= column && screenColumn < column + width
                    && screenRow >= row && screenRow < row + height;
        }

        int colourAt(int screenColumn, int screenRow) {
            return cells[(screenRow - row) * width + screenColumn - column];
        }

        int fillPart(int left, int top, int wide, int high, int colour) {
            int others = 0;
            int right = Math.min(left + wide, width);
            int bottom = Math.min(top + high, height);
            for (int y = top; y < bottom; y++) {
                for (int x = left; x < right; x++) {
                    int cell = y * width + x;
                    if (cells[cell] != colour) {
                        cells[cell] = colour;
                        others++;
                    }
                }
            }
            return others;
        }

        int cellAhead(int keys) {
            return (caret + keys) % cells.length;
        }

        /** The cell of the screen at which a cell of this window is, or NOWHERE. */
        int placeOf(int cell) {
            int screenColumn = column + cell % width;
            int screenRow = row + cell / width;
            return isScreenCell(screenColumn, screenRow)
                    ? screenRow * COLUMNS + screenColumn : NOWHERE;
        }

        void put(int colour) {
            cells[caret] = isSilent ? SILENT_COLOUR : colour;
            caret = cellAhead(1);
        }
    }

    /** A key that waits; as long as it does, it is also a guess of the client that typed it. */
    private static final class Key {
        final Client client;
        final Window window;
        final int cell;
        final int colour;

        Key(Client client, Window window, int cell, int colour) {
            this.client = client;
            this.window = window;
            this.cell = cell;
            this.colour = colour;
        }
    }

    private static final class Session {
        final Window[] windows;
        /** The open windows, the topmost one last. */
        final ArrayList<Window> pile;
        final ArrayList<Key> keys;
        final int[] colours;
        final Clipboard clipboard;
        final Transfer transfer;
        /** Null as long as none was begun. */
        Recording recording;
        int windowCount;
        boolean isHeld;

        Session() {
            windows = new Window[WINDOWS];
            pile = new ArrayList<Window>();
            keys = new ArrayList<Key>();
            colours = new int[CELLS];
            clipboard = new Clipboard();
            transfer = new Transfer();
        }

        int addWindow(Window window) {
            int number = windowCount;
            if (number < WINDOWS) {
                windows[number] = window;
                windowCount = number + 1;
                pile.add(window);
                repaint();
            }
            return number;
        }

        void takeFromPile(Window window) {
            for (int i = pile.size() - 1; i >= 0; i--) {
                if (pile.get(i) == window) {
                    pile.remove(i);
                }
            }
        }

        boolean isOnTop(Window window) {
            int size = pile.size();
            return size > 0 && pile.get(size - 1) == window;
        }

        Window topShown() {
            for (int i = pile.size() - 1; i >= 0; i--) {
                Window window = pile.get(i);
                if (window.isShown) {
                    return window;
                }
            }
            return null;
        }

        Window topShownAt(int column, int row) {
            for (int i = pile.size() - 1; i >= 0; i--) {
                Window window = pile.get(i);
                if (window.isShown && window.covers(column, row)) {
                    return window;
                }
            }
            return null;
        }

        int colourOfWindows(int cell) {
            int column = cell % COLUMNS;
            int row = cell / COLUMNS;
            Window window = topShownAt(column, row);
            return window == null ? 0 : window.colourAt(column, row);
        }

        /** Returns how many cells are others than before. */
        int repaint() {
            int others = 0;
            for (int cell = 0; cell < CELLS; cell++) {
                int colour = colourOfWindows(cell);
                if (colours[cell] != colour) {
                    colours[cell] = colour;
                    others++;
                }
            }
            return others;
        }

        boolean isPainted() {
            for (int cell = 0; cell < CELLS; cell++) {
                if (colours[cell] != colourOfWindows(cell)) {
                    return false;
                }
            }
            return true;
        }

        boolean isTrue() {
            return isPainted() && (recording == null || recording.isAsLookedAt());
        }

        int countKeysOf(Window window) {
            int count = 0;
            for (int i = 0; i < keys.size(); i++) {
                if (keys.get(i).window == window) {
                    count++;
                }
            }
            return count;
        }

        int countKeysBy(Client client) {
            int count = 0;
            for (int i = 0; i < keys.size(); i++) {
                if (keys.get(i).client == client) {
                    count++;
                }
            }
            return count;
        }

        Key lastGuessAt(Client client, int cell) {
            for (int i = keys.size() - 1; i >= 0; i--) {
                Key key = keys.get(i);
                if (key.client == client && key.window.placeOf(key.cell) == cell) {
                    return key;
                }
            }
            return null;
        }

        void advanceMove() {
            isHeld = transfer.isRunning && transfer.advance(colours);
        }

        void doKeys() {
            if (isHeld) {
                return;
            }
            for (int i = 0; i < keys.size(); i++) {
                Key key = keys.get(i);
                if (key.window.isOpen) {
                    key.window.put(key.colour);
                    repaint();
                }
                key.client.endGuess(isRight(key));
            }
            keys.clear();
        }

        boolean isRight(Key key) {
            int place = key.window.placeOf(key.cell);
            return place != NOWHERE && key.window.isOpen && colours[place] == key.colour;
        }

        void lookForRecording() {
            if (recording == null || recording.isFull()) {
                return;
            }
            for (int cell = 0; cell < CELLS; cell++) {
                Window window = topShownAt(cell % COLUMNS, cell / COLUMNS);
                boolean isSecret = window != null && window.isSecret;
                recording.look(cell, isSecret ? SECRET_COLOUR : colours[cell]);
            }
            recording.endTick();
        }
    }

    private static final class Client {
        final Session session;
        final int[] colours;
        final Change change;
        int bid;
        int money;
        int goneGuesses;
        int rightGuesses;

        Client(Session session, int bid) {
            this.session = session;
            this.bid = bid;
            this.change = new Change(session.colours);
            this.colours = change.picture;
        }

        int countBehind() {
            int count = 0;
            for (int cell = 0; cell < CELLS; cell++) {
                if (change.isBehind(cell)) {
                    count++;
                }
            }
            return count;
        }

        void endGuess(boolean isRight) {
            goneGuesses++;
            if (isRight) {
                rightGuesses++;
            }
        }
    }

    /** The picture of a client, and the change that it gets next, which is found and made here. */
    private static final class Change {
        static final char NONE = ' ';
        static final char COPY = 'c';
        static final char FILL = 'f';
        static final char CELLS_OF_ROW = 'r';
        static final int COPY_COST = 6;
        static final int FILL_COST = 5;
        static final int ROW_COST = 2;
        static final int MOST_AWAY = 2;
        static final int COPY_WIDTH = 6;
        static final int COPY_HEIGHT = 4;

        final int[] picture;
        final int[] screen;
        final int[] pictureBefore;
        final int[] gainByHeight;
        char sort;
        int cost;
        int gain;
        int first;
        int distance;
        int width;
        int height;

        Change(int[] screen) {
            this.screen = screen;
            this.picture = new int[CELLS];
            this.pictureBefore = new int[CELLS];
            this.gainByHeight = new int[ROWS + 1];
            this.sort = NONE;
        }

        void find() {
            sort = NONE;
            gain = 0;
            cost = 1;
            first = 0;
            while (first < CELLS && !isBehind(first)) {
                first++;
            }
            if (first < CELLS) {
                tryCopies();
                tryRectangles(0, 0);
                tryCells();
            }
        }

        boolean isBehind(int cell) {
            return picture[cell] != screen[cell];
        }

        void tryCopies() {
            for (int rowsAway = -MOST_AWAY; rowsAway <= MOST_AWAY; rowsAway++) {
                for (int columnsAway = -MOST_AWAY; columnsAway <= MOST_AWAY; columnsAway++) {
                    if (rowsAway != 0 || columnsAway != 0) {
                        tryRectangles(rowsAway, columnsAway);
                    }
                }
            }
        }

        /** Tries the copies from so far away, or, from no distance, the fills. */
        void tryRectangles(int rowsAway, int columnsAway) {
            int column = first % COLUMNS;
            int row = first / COLUMNS;
            if (row + rowsAway < 0 || column + columnsAway < 0) {
                return;
            }
            int away = rowsAway * COLUMNS + columnsAway;
            int widest = COLUMNS - Math.max(column, column + columnsAway);
            int highest = ROWS - Math.max(row, row + rowsAway);
            if (away != 0) {
                widest = Math.min(widest, COPY_WIDTH);
                highest = Math.min(highest, COPY_HEIGHT);
            }
            Arrays.fill(gainByHeight, 0);
            // Widths outside, heights inside: of equal rectangles, the first one found is to win.
            for (int wide = 1; wide <= widest; wide++) {
                int columnGain = 0;
                for (int high = 1; high <= highest; high++) {
                    int cell = first + (high - 1) * COLUMNS + wide - 1;
                    int colour = away == 0 ? screen[first] : picture[cell + away];
                    columnGain += gainOf(cell, colour);
                    gainByHeight[high] += columnGain;
                    if (away == 0) {
                        consider(FILL, gainByHeight[high], FILL_COST, away, wide, high);
                    } else if (wide > 1) {
                        consider(COPY, gainByHeight[high], COPY_COST, away, wide, high);
                    }
                }
            }
        }

        void tryCells() {
            int most = COLUMNS - first % COLUMNS;
            int count = 0;
            while (count < most && isBehind(first + count)) {
                count++;
            }
            consider(CELLS_OF_ROW, count, ROW_COST + count, 0, count, 1);
        }

        int gainOf(int cell, int colour) {
            int rightBefore = picture[cell] == screen[cell] ? 1 : 0;
            int rightThen = colour == screen[cell] ? 1 : 0;
            return rightThen - rightBefore;
        }

        void consider(char newSort, int newGain, int newCost, int away, int wide, int high) {
            // Both costs are above 0: this compares the fractions gain / cost without dividing.
            if (newGain * cost > gain * newCost) {
                sort = newSort;
                gain = newGain;
                cost = newCost;
                distance = away;
                width = wide;
                height = high;
            }
        }

        void apply() {
            if (sort == NONE) {
                return;
            }
            System.arraycopy(picture, 0, pictureBefore, 0, CELLS);
            for (int y = 0; y < height; y++) {
                for (int x = 0; x < width; x++) {
                    int cell = first + y * COLUMNS + x;
                    picture[cell] = colourAfter(cell);
                }
            }
        }

        int colourAfter(int cell) {
            if (sort == COPY) {
                return pictureBefore[cell + distance];
            }
            return sort == FILL ? screen[first] : screen[cell];
        }
    }

    private static final class Clipboard {
        int content;
        int kind;
        /** The sessions that the content has passed, a bit each. */
        int passed;

        Clipboard() {
            content = NO_CONTENT;
        }

        void hold(int newContent, int newKind, int newPassed) {
            content = newContent;
            kind = newKind;
            passed = newPassed;
        }
    }

    /** How a session moves to another host. */
    private static final class Transfer {
        final int[] copied;
        final boolean[] isCopied;
        boolean isRunning;
        int movesDone;

        Transfer() {
            copied = new int[CELLS];
            isCopied = new boolean[ROWS];
        }

        void begin() {
            isRunning = true;
            for (int row = 0; row < ROWS; row++) {
                isCopied[row] = false;
            }
        }

        boolean isOther(int[] screen, int row) {
            for (int cell = row * COLUMNS; cell < (row + 1) * COLUMNS; cell++) {
                if (copied[cell] != screen[cell]) {
                    return true;
                }
            }
            return false;
        }

        int countRowsLeft(int[] screen) {
            int count = 0;
            for (int row = 0; row < ROWS; row++) {
                if (!isCopied[row] || isOther(screen, row)) {
                    count++;
                }
            }
            return count;
        }

        /** Returns true if the move is done by this. */
        boolean advance(int[] screen) {
            if (countRowsLeft(screen) <= ROWS_AT_ONCE) {
                isRunning = false;
                movesDone++;
                return true;
            }
            int row = nextRow(screen);
            isCopied[row] = true;
            System.arraycopy(screen, row * COLUMNS, copied, row * COLUMNS, COLUMNS);
            return false;
        }

        int nextRow(int[] screen) {
            for (int row = 0; row < ROWS; row++) {
                if (!isCopied[row]) {
                    return row;
                }
            }
            for (int row = 0; row < ROWS; row++) {
                if (isOther(screen, row)) {
                    return row;
                }
            }
            return 0;
        }
    }

    /** A recording keeps what is noted, tick by tick; a picture is found again by playing it. */
    private static final class Recording {
        final int[] noteCells;
        final int[] noteColours;
        final int[] notesAfterTick;
        final int[] lastLook;
        final int[] shown;
        int ticks;
        int noteCount;

        Recording() {
            noteCells = new int[RECORDED_TICKS * CELLS];
            noteColours = new int[RECORDED_TICKS * CELLS];
            notesAfterTick = new int[RECORDED_TICKS + 1];
            lastLook = new int[CELLS];
            shown = new int[CELLS];
        }

        void begin() {
            ticks = 0;
            noteCount = 0;
            Arrays.fill(lastLook, 0);
        }

        boolean isFull() {
            return ticks >= RECORDED_TICKS;
        }

        void look(int cell, int colour) {
            if (lastLook[cell] != colour && noteCount < noteCells.length) {
                noteCells[noteCount] = cell;
                noteColours[noteCount] = colour;
                noteCount++;
                lastLook[cell] = colour;
            }
        }

        void endTick() {
            if (ticks < RECORDED_TICKS) {
                ticks++;
                notesAfterTick[ticks] = noteCount;
            }
        }

        void play(int tick) {
            Arrays.fill(shown, 0);
            if (isWithin(tick, 1, ticks)) {
                int notes = notesAfterTick[tick];
                for (int i = 0; i < notes; i++) {
                    shown[noteCells[i]] = noteColours[i];
                }
            }
        }

        boolean isAsLookedAt() {
            play(ticks);
            for (int cell = 0; cell < CELLS; cell++) {
                if (shown[cell] != lastLook[cell]) {
                    return false;
                }
            }
            return true;
        }
    }
}
