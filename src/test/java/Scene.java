/** What the tests of the edges have in common: desktops, and rows of cells told as text. */
final class Scene {
    private Scene() {
    }

    static Remotepane sessions(int count) {
        Remotepane x = new Remotepane();
        for (int i = 0; i < count; i++) {
            x.openSession();
        }
        return x;
    }

    /** A session with a window over all its screen. */
    static Remotepane desktop() {
        Remotepane x = sessions(1);
        x.openWindow(0, 0, 0, 12, 8);
        return x;
    }

    /** A desktop and a client that looks at it. */
    static Remotepane looked(int bid) {
        Remotepane x = desktop();
        x.join(0, bid);
        return x;
    }

    /** Opens a window of one colour. */
    static int window(Remotepane x, int column, int row, int width, int height, int colour) {
        int number = x.openWindow(0, column, row, width, height);
        x.draw(0, number, 0, 0, width, height, colour);
        return number;
    }

    static void dot(Remotepane x, int column, int row, int colour) {
        x.draw(0, 0, column, row, 1, 1, colour);
    }

    /** Draws the signs of each line into the window 0, a letter being a colour, and . being 0. */
    static void paint(Remotepane x, int column, int row, String... lines) {
        for (int y = 0; y < lines.length; y++) {
            for (int at = 0; at < lines[y].length(); at++) {
                char sign = lines[y].charAt(at);
                dot(x, column + at, row + y, sign == '.' ? 0 : sign);
            }
        }
    }

    static String pictureRow(Remotepane x, int client, int row) {
        StringBuilder text = new StringBuilder();
        for (int column = 0; column < 12; column++) {
            text.append(sign(x.picture(client, column, row)));
        }
        return text.toString();
    }

    static String screenRow(Remotepane x, int session, int row) {
        StringBuilder text = new StringBuilder();
        for (int column = 0; column < 12; column++) {
            text.append(sign(x.screen(session, column, row)));
        }
        return text.toString();
    }

    private static char sign(int colour) {
        return colour == 0 ? '.' : (char) colour;
    }

    /** How many cells of the screen are others than 0; this takes 96 calls. */
    static int colouredCells(Remotepane x, int session) {
        int count = 0;
        for (int cell = 0; cell < 96; cell++) {
            count += x.screen(session, cell % 12, cell / 12) == 0 ? 0 : 1;
        }
        return count;
    }

    /**
     * Two desktops; client 0 looks at the first one, client 1, which is rich, at the second one, where
     * it takes so much of the line in oneChange that a single change is left for client 0.
     */
    static Remotepane rivals() {
        Remotepane x = desktop();
        x.openSession();
        x.openWindow(1, 0, 0, 12, 8);
        x.join(0, 0);
        x.join(1, 9);
        x.tick(7);
        return x;
    }

    /** A tick in which the rival takes 14 and 4 units, so that 6 are left: one change for client 0. */
    static void oneChange(String what, Remotepane x) {
        int colour = x.screen(1, 0, 0) == 1 ? 101 : 1;
        for (int column = 0; column < 12; column++) {
            x.draw(1, 0, column, 0, 1, 1, colour + column);
        }
        x.draw(1, 0, 3, 4, 1, 1, colour + 20);
        x.draw(1, 0, 4, 4, 1, 1, colour + 21);
        int cost = x.nextCost(0);
        Check.same(what + ": the rival and one change", x.tick(1), 18 + cost);
        Check.same(what + ": the rival is not behind", x.behind(1), 0);
    }

    static void settle(Remotepane x) {
        x.tick(20);
        Check.same("settled", x.meanBehind(), 0.0);
    }
}
