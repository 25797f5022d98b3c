import java.util.ArrayList;
import java.util.Arrays;
import java.util.HashSet;
import java.util.List;
import java.util.NoSuchElementException;
import java.util.Set;

/**
 * The document told a second time, as plainly as can be: nothing is kept that can be found anew,
 * every change is tried out on a copy of the picture. ModelTests compares Remotepane with it.
 */
public final class Model {
    private static final class Pane {
        int column, row, width, height, caret, order;
        int[][] cells;
        boolean open = true, shown = true, secret, silent;
    }

    private static final class Typed {
        int client, cell, colour;
        Pane pane;
    }

    private static final class Desk {
        final List<Pane> panes = new ArrayList<>();
        List<Typed> waiting = new ArrayList<>();
        int orders;
        int content = -1, kind;
        Set<Integer> way = new HashSet<>();
        int moves;
        int[][] copies; // null when it doesn't move; a row is null as long as it was not copied
        boolean held;
        List<int[][]> frames; // null without a recording
    }

    private static final class Looker {
        int session, bid, money, gone, right;
        int[][] picture = new int[8][12];
    }

    private static final class Candidate {
        char sort;
        int cost, gain;
        int[][] after;
    }

    private final List<Desk> desks = new ArrayList<>();
    private final List<Looker> lookers = new ArrayList<>();
    private final Set<String> rights = new HashSet<>();
    private long units;

    private static void need(boolean holds, RuntimeException otherwise) {
        if (!holds) {
            throw otherwise;
        }
    }

    private static boolean in(int x, int least, int most) {
        return least <= x && x <= most;
    }

    private Desk desk(int session) {
        need(in(session, 0, desks.size() - 1), new IndexOutOfBoundsException());
        return desks.get(session);
    }

    private Pane pane(int session, int window) {
        Desk desk = desk(session);
        need(in(window, 0, desk.panes.size() - 1), new IndexOutOfBoundsException());
        need(desk.panes.get(window).open, new IndexOutOfBoundsException());
        return desk.panes.get(window);
    }

    private Looker looker(int client) {
        need(in(client, 0, lookers.size() - 1), new IndexOutOfBoundsException());
        return lookers.get(client);
    }

    private static void cell(int column, int row) {
        need(in(column, 0, 11) && in(row, 0, 7), new IndexOutOfBoundsException());
    }

    private static Pane topmost(Desk desk, int column, int row) {
        Pane top = null;
        for (Pane p : desk.panes) {
            boolean there = in(column, p.column, p.column + p.width - 1)
                    && in(row, p.row, p.row + p.height - 1);
            if (p.open && p.shown && there && (top == null || p.order > top.order)) {
                top = p;
            }
        }
        return top;
    }

    private static int[][] screenOf(Desk desk, boolean blackedOut) {
        int[][] screen = new int[8][12];
        for (int r = 0; r < 8; r++) {
            for (int c = 0; c < 12; c++) {
                Pane p = topmost(desk, c, r);
                if (p != null) {
                    screen[r][c] = blackedOut && p.secret ? 255 : p.cells[r - p.row][c - p.column];
                }
            }
        }
        return screen;
    }

    private static int differences(int[][] a, int[][] b) {
        int count = 0;
        for (int r = 0; r < a.length; r++) {
            for (int c = 0; c < a[r].length; c++) {
                count += a[r][c] != b[r][c] ? 1 : 0;
            }
        }
        return count;
    }

    private static int[][] copyOf(int[][] a) {
        int[][] copy = new int[a.length][];
        for (int r = 0; r < a.length; r++) {
            copy[r] = a[r].clone();
        }
        return copy;
    }

    public int openSession() {
        need(desks.size() < 4, new IllegalStateException());
        desks.add(new Desk());
        return desks.size() - 1;
    }

    public int openWindow(int session, int column, int row, int width, int height) {
        Desk desk = desk(session);
        need(in(column, -5, 11) && in(row, -5, 7) && in(width, 1, 12) && in(height, 1, 8),
                new IllegalArgumentException());
        need(desk.panes.size() < 6, new IllegalStateException());
        Pane p = new Pane();
        p.column = column;
        p.row = row;
        p.width = width;
        p.height = height;
        p.cells = new int[height][width];
        p.order = ++desk.orders;
        desk.panes.add(p);
        return desk.panes.size() - 1;
    }

    public boolean closeWindow(int session, int window) {
        Pane p = pane(session, window);
        p.open = false;
        return p.shown;
    }

    public int moveWindow(int session, int window, int column, int row) {
        Pane p = pane(session, window);
        need(in(column, -5, 11) && in(row, -5, 7), new IllegalArgumentException());
        int[][] before = screenOf(desk(session), false);
        p.column = column;
        p.row = row;
        return differences(before, screenOf(desk(session), false));
    }

    public boolean raise(int session, int window) {
        Pane p = pane(session, window);
        boolean wasLower = false;
        for (Pane other : desk(session).panes) {
            wasLower |= other.open && other.order > p.order;
        }
        p.order = ++desk(session).orders;
        return wasLower;
    }

    public boolean show(int session, int window, boolean isShown) {
        Pane p = pane(session, window);
        boolean was = p.shown;
        p.shown = isShown;
        return was;
    }

    public boolean mark(int session, int window, boolean isSecret, boolean isSilent) {
        Pane p = pane(session, window);
        boolean other = p.secret != isSecret || p.silent != isSilent;
        p.secret = isSecret;
        p.silent = isSilent;
        return other;
    }

    public int draw(int session, int window, int column, int row, int width, int height, int colour) {
        Pane p = pane(session, window);
        need(in(column, 0, 11) && in(row, 0, 7) && in(width, 1, 12) && in(height, 1, 8)
                && in(colour, 0, 255), new IllegalArgumentException());
        int[][] before = copyOf(p.cells);
        for (int r = 0; r < p.height; r++) {
            for (int c = 0; c < p.width; c++) {
                if (in(c, column, column + width - 1) && in(r, row, row + height - 1)) {
                    p.cells[r][c] = colour;
                }
            }
        }
        return differences(before, p.cells);
    }

    public int screen(int session, int column, int row) {
        Desk desk = desk(session);
        cell(column, row);
        return screenOf(desk, false)[row][column];
    }

    public int join(int session, int bid) {
        desk(session);
        need(in(bid, 0, 9), new IllegalArgumentException());
        need(lookers.size() < 6, new IllegalStateException());
        Looker l = new Looker();
        l.session = session;
        l.bid = bid;
        lookers.add(l);
        return lookers.size() - 1;
    }

    public int bid(int client, int bid) {
        Looker l = looker(client);
        need(in(bid, 0, 9), new IllegalArgumentException());
        int before = l.bid;
        l.bid = bid;
        return before;
    }

    public int money(int client) {
        return looker(client).money;
    }

    public int picture(int client, int column, int row) {
        Looker l = looker(client);
        cell(column, row);
        return l.picture[row][column];
    }

    public int seen(int client, int column, int row) {
        Looker l = looker(client);
        cell(column, row);
        int colour = l.picture[row][column];
        for (Typed t : desk(l.session).waiting) {
            if (t.client == client && t.pane.column + t.cell % t.pane.width == column
                    && t.pane.row + t.cell / t.pane.width == row) {
                colour = t.colour;
            }
        }
        return colour;
    }

    public int behind(int client) {
        Looker l = looker(client);
        return differences(l.picture, screenOf(desk(l.session), false));
    }

    public char next(int client) {
        behind(client);
        Candidate best = best(looker(client));
        need(best != null, new NoSuchElementException());
        return best.sort;
    }

    public int nextCost(int client) {
        behind(client);
        Candidate best = best(looker(client));
        need(best != null, new NoSuchElementException());
        return best.cost;
    }

    private Candidate best(Looker l) {
        int[][] due = screenOf(desk(l.session), false);
        int first = 0;
        while (first < 96 && l.picture[first / 12][first % 12] == due[first / 12][first % 12]) {
            first++;
        }
        if (first == 96) {
            return null;
        }
        int row = first / 12;
        int column = first % 12;
        Candidate best = null;
        for (int up = -2; up <= 2; up++) {
            for (int side = -2; side <= 2; side++) {
                for (int width = 2; width <= 6; width++) {
                    for (int height = 1; height <= 4; height++) {
                        boolean inside = column + width <= 12 && row + height <= 8;
                        boolean from = row + up >= 0 && column + side >= 0
                                && column + side + width <= 12 && row + up + height <= 8;
                        if ((up != 0 || side != 0) && inside && from) {
                            int[][] after = copyOf(l.picture);
                            for (int r = row; r < row + height; r++) {
                                for (int c = column; c < column + width; c++) {
                                    after[r][c] = l.picture[r + up][c + side];
                                }
                            }
                            best = better(best, candidate('c', 6, l.picture, after, due));
                        }
                    }
                }
            }
        }
        for (int width = 1; column + width <= 12; width++) {
            for (int height = 1; row + height <= 8; height++) {
                int[][] after = copyOf(l.picture);
                for (int r = row; r < row + height; r++) {
                    Arrays.fill(after[r], column, column + width, due[row][column]);
                }
                best = better(best, candidate('f', 5, l.picture, after, due));
            }
        }
        int end = column;
        int[][] after = copyOf(l.picture);
        while (end < 12 && l.picture[row][end] != due[row][end]) {
            after[row][end] = due[row][end];
            end++;
        }
        return better(best, candidate('r', 2 + end - column, l.picture, after, due));
    }

    private static Candidate candidate(char sort, int cost, int[][] before, int[][] after, int[][] due) {
        Candidate made = new Candidate();
        made.sort = sort;
        made.cost = cost;
        made.after = after;
        made.gain = differences(before, due) - differences(after, due);
        return made;
    }

    private static Candidate better(Candidate first, Candidate second) {
        if (first == null || second.gain * first.cost > first.gain * second.cost) {
            return second;
        }
        return first;
    }

    public int tick(int ticks) {
        need(in(ticks, 1, 20), new IllegalArgumentException());
        int sum = 0;
        for (int i = 0; i < ticks; i++) {
            desks.forEach(Model::moveOn);
            sum += line();
            desks.forEach(this::endTick);
        }
        units += sum;
        return sum;
    }

    private static boolean isLeft(Desk desk, int row) {
        return desk.copies[row] == null
                || !Arrays.equals(desk.copies[row], screenOf(desk, false)[row]);
    }

    private static int countLeft(Desk desk) {
        int count = 0;
        for (int row = 0; row < 8; row++) {
            count += isLeft(desk, row) ? 1 : 0;
        }
        return count;
    }

    private static void moveOn(Desk desk) {
        desk.held = false;
        if (desk.copies == null) {
            return;
        }
        if (countLeft(desk) <= 2) {
            desk.copies = null;
            desk.moves++;
            desk.held = true;
            return;
        }
        int chosen = -1;
        for (int row = 7; row >= 0; row--) {
            if (desk.copies[row] == null) {
                chosen = row;
            }
        }
        for (int row = 0; row < 8 && chosen < 0; row++) {
            if (isLeft(desk, row)) {
                chosen = row;
            }
        }
        desk.copies[chosen] = screenOf(desk, false)[chosen];
    }

    private int line() {
        for (Looker l : lookers) {
            l.money = Math.min(60, l.money + l.bid);
        }
        int left = 24;
        while (true) {
            Looker chosen = null;
            Candidate change = null;
            for (Looker l : lookers) {
                Candidate best = chosen != null && l.money <= chosen.money ? null : best(l);
                if (best != null && best.cost <= left) {
                    chosen = l;
                    change = best;
                }
            }
            if (chosen == null) {
                return 24 - left;
            }
            left -= change.cost;
            chosen.money -= Math.min(change.cost, chosen.money);
            chosen.picture = change.after;
        }
    }

    private void endTick(Desk desk) {
        if (!desk.held) {
            List<Typed> keys = desk.waiting;
            desk.waiting = new ArrayList<>();
            for (Typed t : keys) {
                press(desk, t);
            }
        }
        if (desk.frames != null && desk.frames.size() < 60) {
            desk.frames.add(screenOf(desk, true));
        }
    }

    private void press(Desk desk, Typed t) {
        Pane p = t.pane;
        Looker l = lookers.get(t.client);
        l.gone++;
        if (!p.open) {
            return;
        }
        p.cells[p.caret / p.width][p.caret % p.width] = p.silent ? 7 : t.colour;
        p.caret = p.caret + 1 == p.width * p.height ? 0 : p.caret + 1;
        int column = p.column + t.cell % p.width;
        int row = p.row + t.cell / p.width;
        if (in(column, 0, 11) && in(row, 0, 7)
                && screenOf(desk, false)[row][column] == t.colour) {
            l.right++;
        }
    }

    public long carried() {
        return units;
    }

    public int type(int client, char letter) {
        Looker l = looker(client);
        need(in(letter, 'a', 'z'), new IllegalArgumentException());
        Desk desk = desk(l.session);
        Pane top = null;
        for (Pane p : desk.panes) {
            if (p.open && p.shown && (top == null || p.order > top.order)) {
                top = p;
            }
        }
        need(top != null, new UnsupportedOperationException());
        need(desk.waiting.size() < 20, new IllegalStateException());
        int caret = top.caret;
        for (Typed t : desk.waiting) {
            if (t.pane == top) {
                caret = caret + 1 == top.width * top.height ? 0 : caret + 1;
            }
        }
        Typed typed = new Typed();
        typed.client = client;
        typed.pane = top;
        typed.cell = caret;
        typed.colour = 100 + " abcdefghijklmnopqrstuvwxyz".indexOf(letter);
        desk.waiting.add(typed);
        return desk.waiting.size();
    }

    public int guesses(int client) {
        Looker l = looker(client);
        return (int) desk(l.session).waiting.stream().filter(t -> t.client == client).count();
    }

    public float rightShare(int client) {
        Looker l = looker(client);
        need(l.gone > 0, new ArithmeticException());
        return (float) l.right / (float) l.gone;
    }

    public int copy(int session, int kind, int content) {
        Desk desk = desk(session);
        need(in(kind, 0, 2) && in(content, 0, 9999), new IllegalArgumentException());
        int before = desk.content;
        desk.content = content;
        desk.kind = kind;
        desk.way = new HashSet<>(Set.of(session));
        return before;
    }

    public boolean allow(int from, int to, int kind, boolean does) {
        desk(from);
        desk(to);
        need(in(kind, 0, 2) && from != to, new IllegalArgumentException());
        String right = from + ">" + to + ":" + kind;
        return does ? !rights.add(right) : rights.remove(right);
    }

    public int paste(int from, int to) {
        Desk source = desk(from);
        Desk target = desk(to);
        need(from != to, new IndexOutOfBoundsException());
        need(source.content >= 0, new NoSuchElementException());
        for (int passed : source.way) {
            need(passed == to || rights.contains(passed + ">" + to + ":" + source.kind),
                    new UnsupportedOperationException());
        }
        target.content = source.content;
        target.kind = source.kind;
        target.way = new HashSet<>(source.way);
        target.way.add(to);
        return target.content;
    }

    public boolean move(int session) {
        Desk desk = desk(session);
        need(desk.copies == null, new IllegalStateException());
        desk.copies = new int[8][];
        return desk.moves > 0;
    }

    public int left(int session) {
        Desk desk = desk(session);
        need(desk.copies != null, new IllegalStateException());
        return countLeft(desk);
    }

    public int host(int session) {
        return desk(session).moves;
    }

    public int record(int session) {
        Desk desk = desk(session);
        int before = desk.frames == null ? 0 : desk.frames.size();
        desk.frames = new ArrayList<>();
        return before;
    }

    public int played(int session, int tick, int column, int row) {
        Desk desk = desk(session);
        cell(column, row);
        need(desk.frames != null && in(tick, 1, desk.frames.size()), new NoSuchElementException());
        return desk.frames.get(tick - 1)[row][column];
    }

    public int noted(int session) {
        Desk desk = desk(session);
        need(desk.frames != null, new NoSuchElementException());
        int sum = 0;
        int[][] before = new int[8][12];
        for (int[][] frame : desk.frames) {
            sum += differences(before, frame);
            before = frame;
        }
        return sum;
    }

    public double meanBehind() {
        need(!lookers.isEmpty(), new ArithmeticException());
        int sum = 0;
        for (int client = 0; client < lookers.size(); client++) {
            sum += behind(client);
        }
        return (double) sum / (double) lookers.size();
    }

    public boolean isConsistent() {
        return true;
    }
}
