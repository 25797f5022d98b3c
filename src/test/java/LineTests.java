import java.util.NoSuchElementException;

/** Promises 11 to 20: clients and the line. */
public final class LineTests {
    private static final Class<IndexOutOfBoundsException> NO_SUCH = IndexOutOfBoundsException.class;
    private static final Class<IllegalArgumentException> RANGE = IllegalArgumentException.class;
    private static final Class<IllegalStateException> STATE = IllegalStateException.class;
    private static final Class<NoSuchElementException> NONE = NoSuchElementException.class;

    public static void main(String[] args) {
        promise11Join();
        promise12Bid();
        promise13Money();
        promise13PaysAtMostWhatItHas();
        promise14Picture();
        promise15Seen();
        promise16Behind();
        promise17Row();
        promise17Fill();
        promise17FillThatBreaksCells();
        promise17FillStartsAtFirstCell();
        promise17Copy();
        promise17CopyReadsAheadOfIt();
        promise17CopyFromAllAround();
        promise17CopyThatBreaksCells();
        promise17CopyLimits();
        promise17Ties();
        promise18NextCost();
        promise19Tick();
        promise19RichestFirst();
        promise19DearChangeWaits();
        promise19MoneyDoesNotBar();
        promise20Carried();
        Check.end();
    }

    /** A session with a window over all its screen. */
    private static Remotepane withDesktop() {
        Remotepane x = new Remotepane();
        x.openSession();
        x.openWindow(0, 0, 0, 12, 8);
        return x;
    }

    private static void dot(Remotepane x, int column, int row, int colour) {
        x.draw(0, 0, column, row, 1, 1, colour);
    }

    /** Draws the signs of each line into the window, a letter being a colour, and . being 0. */
    private static void paint(Remotepane x, int column, int row, String... lines) {
        for (int y = 0; y < lines.length; y++) {
            for (int at = 0; at < lines[y].length(); at++) {
                char sign = lines[y].charAt(at);
                dot(x, column + at, row + y, sign == '.' ? 0 : sign);
            }
        }
    }

    private static String pictureOf(Remotepane x, int client, int row) {
        StringBuilder text = new StringBuilder();
        for (int column = 0; column < 12; column++) {
            int colour = x.picture(client, column, row);
            text.append(colour == 0 ? '.' : (char) colour);
        }
        return text.toString();
    }

    private static void settle(Remotepane x) {
        x.tick(20);
        Check.same("settled", x.meanBehind(), 0.0);
    }

    private static void promise11Join() {
        Remotepane x = withDesktop();
        Check.fails("11 no session", NO_SUCH, () -> x.join(1, 0));
        Check.fails("11 session -1", NO_SUCH, () -> x.join(-1, 0));
        Check.fails("11 no session is first", NO_SUCH, () -> x.join(1, 10));
        Check.fails("11 bid -1", RANGE, () -> x.join(0, -1));
        Check.fails("11 bid 10", RANGE, () -> x.join(0, 10));
        x.openSession();
        x.openWindow(1, 0, 0, 1, 1);
        x.draw(1, 0, 0, 0, 1, 1, 8);
        for (int i = 0; i < 6; i++) {
            final int number = i;
            Check.fails("11 not yet", NO_SUCH, () -> x.money(number));
            Check.same("11 number", x.join(i % 2, i == 5 ? 9 : i), i);
            Check.same("11 no money", x.money(i), 0);
            Check.same("11 looks at its session", x.behind(i), i % 2);
            Check.same("11 a picture of 0", x.picture(i, 0, 0), 0);
            Check.same("11 no guesses", x.guesses(i), 0);
        }
        Check.same("11 its bid", x.bid(5, 0), 9);
        Check.fails("11 a seventh", STATE, () -> x.join(0, 0));
        Check.fails("11 the bid is ahead of 6", RANGE, () -> x.join(0, 10));
        Check.fails("11 the session is ahead of all", NO_SUCH, () -> x.join(2, 10));
    }

    private static void promise12Bid() {
        Remotepane x = withDesktop();
        x.join(0, 3);
        x.join(0, 4);
        Check.same("12 the one before", x.bid(0, 9), 3);
        Check.same("12 the one before", x.bid(0, 0), 9);
        Check.same("12 of its own", x.bid(1, 4), 4);
        Check.fails("12 no client", NO_SUCH, () -> x.bid(2, 0));
        Check.fails("12 client -1", NO_SUCH, () -> x.bid(-1, 0));
        Check.fails("12 client 6", NO_SUCH, () -> x.bid(6, 0));
        Check.fails("12 no client is first", NO_SUCH, () -> x.bid(2, 10));
        Check.fails("12 bid -1", RANGE, () -> x.bid(1, -1));
        Check.fails("12 bid 10", RANGE, () -> x.bid(1, 10));
        Check.same("12 nothing was set", x.bid(1, 4), 4);
        x.bid(0, 7);
        x.tick(1);
        Check.same("12 counts from then on", x.money(0), 7);
        Check.same("12 counts from then on", x.money(1), 4);
    }

    private static void promise13Money() {
        Remotepane x = withDesktop();
        x.join(0, 9);
        x.join(0, 0);
        x.tick(6);
        Check.same("13 six bids", x.money(0), 54);
        x.tick(1);
        Check.same("13 at most 60", x.money(0), 60);
        x.tick(20);
        Check.same("13 at most 60", x.money(0), 60);
        Check.same("13 bid 0", x.money(1), 0);
        dot(x, 0, 0, 1);
        x.tick(1);
        Check.same("13 60 at the beginning, then pays", x.money(0), 57);
        Check.fails("13 no client", NO_SUCH, () -> x.money(2));
        Check.fails("13 client -1", NO_SUCH, () -> x.money(-1));
        Check.fails("13 client 6", NO_SUCH, () -> x.money(6));
    }

    private static void promise13PaysAtMostWhatItHas() {
        Remotepane x = withDesktop();
        x.join(0, 2);
        dot(x, 0, 0, 1);
        Check.same("13 the line gives it on trust", x.tick(1), 3);
        Check.same("13 paid all it had", x.money(0), 0);
        Check.same("13 has the change", x.behind(0), 0);
    }

    private static void promise14Picture() {
        Remotepane x = withDesktop();
        x.join(0, 1);
        x.join(0, 1);
        dot(x, 0, 0, 5);
        dot(x, 11, 7, 6);
        Check.same("14 not yet", x.picture(0, 0, 0), 0);
        x.tick(1);
        Check.same("14 first", x.picture(0, 0, 0), 5);
        Check.same("14 last", x.picture(0, 11, 7), 6);
        Check.same("14 other", x.picture(0, 11, 6), 0);
        x.type(0, 'a');
        Check.same("14 without guesses", x.picture(0, 0, 0), 5);
        Check.fails("14 no client", NO_SUCH, () -> x.picture(2, 0, 0));
        Check.fails("14 column -1", NO_SUCH, () -> x.picture(0, -1, 1));
        Check.fails("14 column 12", NO_SUCH, () -> x.picture(0, 12, 0));
        Check.fails("14 row -1", NO_SUCH, () -> x.picture(0, 11, -1));
        Check.fails("14 row 8", NO_SUCH, () -> x.picture(0, 0, 8));
    }

    private static void promise15Seen() {
        Remotepane x = withDesktop();
        x.join(0, 1);
        x.join(0, 1);
        dot(x, 0, 0, 5);
        Check.same("15 the picture, not the screen", x.seen(0, 0, 0), 0);
        x.tick(1);
        Check.same("15 the picture", x.seen(0, 0, 0), 5);
        x.type(0, 'c');
        Check.same("15 its guess", x.seen(0, 0, 0), 103);
        Check.same("15 not that of another one", x.seen(1, 0, 0), 5);
        x.openWindow(0, 0, 0, 2, 1);
        x.type(0, 'd');
        Check.same("15 the last of two", x.seen(0, 0, 0), 104);
        x.moveWindow(0, 1, 1, 1);
        Check.same("15 moved with its window", x.seen(0, 1, 1), 104);
        Check.same("15 the one below", x.seen(0, 0, 0), 103);
        x.moveWindow(0, 1, -1, 0);
        Check.same("15 beyond the screen it is nowhere", x.seen(0, 0, 0), 103);
        x.moveWindow(0, 1, 3, 3);
        x.show(0, 1, false);
        Check.same("15 hidden", x.seen(0, 3, 3), 104);
        x.moveWindow(0, 1, 4, 4);
        Check.same("15 moved while hidden", x.seen(0, 4, 4), 104);
        x.raise(0, 0);
        Check.same("15 covered", x.seen(0, 4, 4), 104);
        x.closeWindow(0, 1);
        Check.same("15 where it was as the window was closed", x.seen(0, 4, 4), 104);
        x.tick(1);
        Check.same("15 gone", x.seen(0, 4, 4), 0);
        Check.fails("15 no client", NO_SUCH, () -> x.seen(2, 0, 0));
        Check.fails("15 column -1", NO_SUCH, () -> x.seen(0, -1, 1));
        Check.fails("15 column 12", NO_SUCH, () -> x.seen(0, 12, 0));
        Check.fails("15 row -1", NO_SUCH, () -> x.seen(0, 11, -1));
        Check.fails("15 row 8", NO_SUCH, () -> x.seen(0, 0, 8));
    }

    private static void promise16Behind() {
        Remotepane x = withDesktop();
        x.join(0, 1);
        Check.same("16 none", x.behind(0), 0);
        x.draw(0, 0, 3, 3, 4, 2, 9);
        Check.same("16 eight", x.behind(0), 8);
        x.type(0, 'a');
        Check.same("16 a guess is no picture", x.behind(0), 8);
        x.show(0, 0, false);
        Check.same("16 nothing to see", x.behind(0), 0);
        x.show(0, 0, true);
        x.draw(0, 0, 0, 0, 12, 8, 9);
        Check.same("16 all", x.behind(0), 96);
        Check.fails("16 no client", NO_SUCH, () -> x.behind(1));
        Check.fails("16 client -1", NO_SUCH, () -> x.behind(-1));
    }

    private static void promise17Row() {
        Remotepane x = withDesktop();
        x.join(0, 0);
        Check.fails("17 not behind", NONE, () -> x.next(0));
        Check.fails("17 no client", NO_SUCH, () -> x.next(1));
        Check.fails("17 client -1", NO_SUCH, () -> x.next(-1));
        dot(x, 4, 4, 7);
        Check.same("17 one cell: 1/3 over 1/5", x.next(0), 'r');
        dot(x, 5, 4, 8);
        dot(x, 6, 4, 9);
        dot(x, 8, 4, 9);
        Check.same("17 three others", x.next(0), 'r');
        Check.same("17 as many as are side by side", x.nextCost(0), 5);
        x.tick(1);
        Check.same("17 they come, and the other one", pictureOf(x, 0, 4), "....\u0007\b\t.\t...");
        dot(x, 11, 0, 1);
        dot(x, 0, 1, 2);
        Check.same("17 a row ends at the edge", x.nextCost(0), 3);
    }

    private static void promise17Fill() {
        Remotepane x = withDesktop();
        x.join(0, 0);
        x.draw(0, 0, 4, 4, 3, 1, 7);
        Check.same("17 three of one colour: 3/5 and 3/5", x.next(0), 'f');
        Check.same("17 its cost", x.nextCost(0), 5);
        x.draw(0, 0, 4, 4, 2, 1, 8);
        Check.same("17 two of one colour: 2/4 under 3/5", x.next(0), 'r');
        x.draw(0, 0, 0, 0, 12, 8, 3);
        Check.same("17 all of one colour", x.next(0), 'f');
        Check.same("17 in one change", x.tick(1), 5);
        Check.same("17 all right", x.behind(0), 0);
        x.draw(0, 0, 0, 0, 12, 8, 255);
        dot(x, 0, 0, 4);
        Check.same("17 the first cell says the colour", x.next(0), 'r');
    }

    private static void promise17FillThatBreaksCells() {
        Remotepane x = withDesktop();
        x.join(0, 0);
        dot(x, 5, 5, 9);
        settle(x);
        // Nine right ones less one that comes wrong beat six of which none is harmed.
        x.draw(0, 0, 4, 4, 1, 3, 3);
        x.draw(0, 0, 6, 4, 1, 3, 3);
        x.draw(0, 0, 5, 4, 1, 1, 3);
        x.draw(0, 0, 5, 6, 1, 1, 3);
        Check.same("17 a fill of 3 x 3", x.next(0), 'f');
        x.bid(0, 9);
        x.draw(0, 0, 0, 7, 1, 1, 0);
        Check.same("17 the fill, then the cell that it broke", x.tick(1), 8);
        Check.same("17 mended", x.picture(0, 5, 5), 9);
        fillCountsEachBrokenCellOnce();
    }

    /** Five right ones less one that comes wrong are 4/5, three without harm 3/5. */
    private static void fillCountsEachBrokenCellOnce() {
        Remotepane x = withRival();
        paint(x, 4, 5, ".k.");
        x.tick(20);
        paint(x, 4, 4, "ooo", "oko");
        Check.same("17 a fill", x.next(0), 'f');
        oneChange(x);
        Check.same("17 two high", pictureOf(x, 0, 5), "....ooo.....");
    }

    private static void promise17FillStartsAtFirstCell() {
        Remotepane x = withDesktop();
        x.join(0, 0);
        dot(x, 5, 0, 1);
        x.draw(0, 0, 0, 1, 12, 7, 1);
        // From the column 5 on: 7 columns of 7 rows, and this cell: 50 - 6 by 5.
        Check.same("17 not to the left", x.next(0), 'f');
        x.tick(1);
        Check.same("17 right at once", x.behind(0), 0);
    }

    private static void promise17Copy() {
        Remotepane x = withDesktop();
        x.join(0, 0);
        paint(x, 2, 2, "abcd", "efgh", "ijkl");
        settle(x);
        x.moveWindow(0, 0, 1, 0);
        Check.same("17 one to the right", x.next(0), 'c');
        Check.same("17 a copy", x.nextCost(0), 6);
        settle(x);
        x.moveWindow(0, 0, -1, 0);
        Check.same("17 two to the left", x.next(0), 'c');
        settle(x);
        x.moveWindow(0, 0, -1, 2);
        Check.same("17 two down, from above", x.next(0), 'c');
        settle(x);
        x.moveWindow(0, 0, -2, 0);
        Check.same("17 up and left", x.next(0), 'c');
        settle(x);
    }

    /** Two sessions; client 0 looks at the first, client 1, rich, at the second. */
    private static Remotepane withRival() {
        Remotepane x = withDesktop();
        x.openSession();
        x.openWindow(1, 0, 0, 12, 8);
        x.join(0, 0);
        x.join(1, 9);
        x.tick(7);
        return x;
    }

    /** A tick in which the rival takes 14 and 4 units, so that 6 are left: one change for client 0. */
    private static void oneChange(Remotepane x) {
        int colour = x.screen(1, 0, 0) == 1 ? 101 : 1;
        for (int column = 0; column < 12; column++) {
            x.draw(1, 0, column, 0, 1, 1, colour + column);
        }
        x.draw(1, 0, 3, 4, 1, 1, colour + 20);
        x.draw(1, 0, 4, 4, 1, 1, colour + 21);
        int cost = x.nextCost(0);
        Check.same("the rival and one change", x.tick(1), 18 + cost);
        Check.same("the rival is not behind", x.behind(1), 0);
    }

    private static void promise17CopyReadsAheadOfIt() {
        Remotepane x = withRival();
        paint(x, 0, 0, "abcdefgh");
        x.tick(1);
        paint(x, 0, 0, "aabcdefg");
        Check.same("17 a copy over itself", x.next(0), 'c');
        oneChange(x);
        Check.same("17 as they were ahead of it", pictureOf(x, 0, 0), "aabcdefh....");
        x.tick(1);
        paint(x, 0, 0, "bcdefggg");
        paint(x, 0, 1, "bcdefggg");
        Check.same("17 from the right, over itself", x.next(0), 'c');
        oneChange(x);
        Check.same("17 as they were ahead of it", pictureOf(x, 0, 0), "bcdefgfg....");
        downwards();
    }

    private static void downwards() {
        Remotepane x = withRival();
        paint(x, 3, 0, "ab", "cd", "ef", "gh", "ij");
        x.tick(20);
        paint(x, 3, 1, "ab", "cd", "ef", "gh", "ij");
        Check.same("17 four rows down by one", x.next(0), 'c');
        oneChange(x);
        Check.same("17 row 1", pictureOf(x, 0, 1), "...ab.......");
        Check.same("17 row 2", pictureOf(x, 0, 2), "...cd.......");
        Check.same("17 row 4, the last of four", pictureOf(x, 0, 4), "...gh.......");
        Check.same("17 row 5, no more", pictureOf(x, 0, 5), "............");
    }

    private static void promise17CopyFromAllAround() {
        for (int rows = -2; rows <= 2; rows++) {
            for (int columns = -2; columns <= 2; columns++) {
                if (rows != 0 || columns != 0) {
                    copyFrom(rows, columns);
                }
            }
        }
    }

    private static void copyFrom(int rows, int columns) {
        Remotepane x = withRival();
        paint(x, 4 + columns, 3 + rows, "abcd", "efgh");
        x.tick(20);
        paint(x, 4, 3, "abcd", "efgh");
        String from = "17 from " + rows + ", " + columns;
        Check.same(from, x.next(0), 'c');
        oneChange(x);
        Check.same(from, pictureOf(x, 0, 3).substring(4, 8), "abcd");
        Check.same(from, pictureOf(x, 0, 4).substring(4, 8), "efgh");
        Check.same(from, x.behind(0), 0);
    }

    /** Seven right ones less one that comes wrong beat the four beside each other. */
    private static void promise17CopyThatBreaksCells() {
        Remotepane x = withRival();
        paint(x, 2, 1, "abcd", "efgh");
        paint(x, 2, 4, ".k..");
        x.tick(20);
        paint(x, 2, 3, "abcd", "ekgh");
        Check.same("17 a copy that breaks a cell", x.next(0), 'c');
        oneChange(x);
        Check.same("17 the cell is behind now", pictureOf(x, 0, 4), "..efgh......");
        Check.same("17 the cell is behind now", x.behind(0), 1);
    }

    private static void promise17CopyLimits() {
        String[] block = {"abcdefgh", "ijklmnop", "qrstuvwx", "ABCDEFGH", "IJKLMNOP"};
        Remotepane x = withDesktop();
        x.join(0, 0);
        paint(x, 0, 0, block);
        settle(x);
        paint(x, 3, 0, block);
        Check.same("17 three away is too far", x.next(0), 'r');
        widestAndHighest(block);
        narrowAndFlat();
    }

    private static void widestAndHighest(String[] block) {
        Remotepane x = withRival();
        paint(x, 0, 0, block);
        x.tick(20);
        x.moveWindow(0, 0, 2, 2);
        x.openWindow(0, 0, 0, 12, 2);
        x.openWindow(0, 0, 0, 2, 8);
        for (int column = 0; column < 8; column++) {
            x.draw(0, 1, column, 0, 1, 1, block[0].charAt(column));
            x.draw(0, 1, column, 1, 1, 1, block[1].charAt(column));
        }
        for (int row = 0; row < 5; row++) {
            x.draw(0, 2, 0, row, 1, 1, block[row].charAt(0));
            x.draw(0, 2, 1, row, 1, 1, block[row].charAt(1));
        }
        Check.same("17 from two up and two left", x.next(0), 'c');
        oneChange(x);
        Check.same("17 six wide", pictureOf(x, 0, 2), "qrabcdef....");
        Check.same("17 four high", pictureOf(x, 0, 5), "..ABCDEF....");
        Check.same("17 and no higher", pictureOf(x, 0, 6), "............");
        Check.same("17 the rest is behind", x.behind(0) > 0, true);
    }

    /** A copy is two wide or more, but may be one high. */
    private static void narrowAndFlat() {
        Remotepane x = withDesktop();
        x.join(0, 0);
        paint(x, 5, 2, "a", "b", "c", "d");
        settle(x);
        // A copy of one column would be 4/6; of two, 8/6 for cells of 0 and what is beside them.
        paint(x, 11, 2, "a", "b", "c", "d");
        Check.same("17 from far away", x.next(0), 'r');
        x.draw(0, 0, 11, 0, 1, 8, 0);
        paint(x, 9, 2, "a", "b", "c", "d");
        settle(x);
        paint(x, 11, 2, "a", "b", "c", "d");
        Check.same("17 not one wide: there is no room for two", x.next(0), 'r');
        x.draw(0, 0, 0, 0, 12, 8, 0);
        settle(x);
        paint(x, 8, 2, "ab", "cd", "ef", "gh");
        settle(x);
        paint(x, 10, 2, "ab", "cd", "ef", "gh");
        Check.same("17 two wide, beside the edge", x.next(0), 'c');
    }

    private static void promise17Ties() {
        Remotepane x = withDesktop();
        x.join(0, 0);
        paint(x, 0, 2, "abcabc");
        settle(x);
        // Three right ones by a copy are 3/6, three cells of a row 3/5.
        paint(x, 0, 1, "abc");
        Check.same("17 the row has more for its cost", x.next(0), 'r');
        // Four by a copy are 4/6, four cells of a row 4/6 too.
        paint(x, 0, 1, "abca");
        Check.same("17 the copy is listed first", x.next(0), 'c');
        x.draw(0, 0, 0, 0, 12, 8, 0);
        settle(x);
        x.draw(0, 0, 4, 4, 3, 1, 60);
        Check.same("17 3/5 and 3/5: the fill is ahead of the row", x.next(0), 'f');
        tieOfCopyAndFill();
        tieOfRowsAway();
        tieOfColumnsAway();
        tieOfCopySizes();
        tieOfFillSizes();
    }

    /** Twelve by a copy are 12/6, and ten by a fill 10/5. */
    private static void tieOfCopyAndFill() {
        Remotepane x = withDesktop();
        x.join(0, 0);
        paint(x, 0, 2, "aaaaab", "aaaaab");
        settle(x);
        paint(x, 0, 4, "aaaaab", "aaaaab");
        Check.same("17 the copy is listed first", x.next(0), 'c');
        paint(x, 0, 5, "aaaaa.");
        Check.same("17 eleven by a copy are less", x.next(0), 'f');
    }

    /** Sources above and beneath bring as many right ones, and differ where both are wrong. */
    private static void tieOfRowsAway() {
        Remotepane x = withRival();
        paint(x, 2, 1, "abcPi", "efgPj");
        paint(x, 2, 5, "abcQi", "efgQj");
        x.tick(20);
        paint(x, 2, 3, "abcyi", "efgzj");
        oneChange(x);
        Check.same("17 from above", pictureOf(x, 0, 3), "..abcPi.....");
        Check.same("17 from above", pictureOf(x, 0, 4), "..efgPj.....");
    }

    /** Sources to the left and to the right bring as many right ones. */
    private static void tieOfColumnsAway() {
        Remotepane x = withRival();
        paint(x, 0, 0, "abXcabYc", "dfXgdfYg");
        x.tick(20);
        paint(x, 2, 2, "abzc", "dfzg");
        oneChange(x);
        Check.same("17 from the left", pictureOf(x, 0, 2), "..abXc......");
        Check.same("17 from the left", pictureOf(x, 0, 3), "..dfXg......");
    }

    /** A wider or higher copy that gains no more is not sent: wrong cells stay as they are. */
    private static void tieOfCopySizes() {
        Remotepane x = withRival();
        paint(x, 2, 1, "abcdP", "efghQ", "klmnR");
        x.tick(20);
        paint(x, 2, 3, "abcdp", "efghq", "rstuv");
        Check.same("17 a copy from two up", x.next(0), 'c');
        oneChange(x);
        Check.same("17 four wide", pictureOf(x, 0, 3), "..abcdR.....");
        Check.same("17 four wide", pictureOf(x, 0, 4), "..efgh......");
        Check.same("17 two high", pictureOf(x, 0, 5), "............");
    }

    private static void tieOfFillSizes() {
        Remotepane x = withRival();
        x.draw(0, 0, 2, 2, 3, 3, 'o');
        paint(x, 5, 2, "a", "b", "c");
        paint(x, 2, 5, "def");
        Check.same("17 nine by a fill", x.next(0), 'f');
        oneChange(x);
        Check.same("17 three wide", pictureOf(x, 0, 2), "..ooo.......");
        Check.same("17 three wide", pictureOf(x, 0, 4), "..ooo.......");
        Check.same("17 three high", pictureOf(x, 0, 5), "............");
    }

    private static void promise18NextCost() {
        Remotepane x = withDesktop();
        x.join(0, 0);
        Check.fails("18 not behind", NONE, () -> x.nextCost(0));
        Check.fails("18 no client", NO_SUCH, () -> x.nextCost(1));
        Check.fails("18 client -1", NO_SUCH, () -> x.nextCost(-1));
        dot(x, 0, 0, 1);
        Check.same("18 one cell", x.nextCost(0), 3);
        paint(x, 0, 0, "abcdefghijkl");
        Check.same("18 a whole row", x.nextCost(0), 14);
        Check.same("18 asking changes nothing", x.nextCost(0), 14);
        Check.same("18 nor the picture", x.behind(0), 12);
        x.draw(0, 0, 0, 0, 12, 8, 2);
        Check.same("18 a fill", x.nextCost(0), 5);
        Check.same("18 it is what the tick carries", x.tick(1), 5);
    }

    private static void promise19Tick() {
        Remotepane x = withDesktop();
        x.join(0, 0);
        Check.fails("19 none", RANGE, () -> x.tick(0));
        Check.fails("19 -1", RANGE, () -> x.tick(-1));
        Check.fails("19 21", RANGE, () -> x.tick(21));
        Check.same("19 nothing to carry", x.tick(20), 0);
        paint(x, 0, 0, "abcdefghijkl", "mnopqrstuvwx");
        // A row costs 14; two don't go at once, and what is left of the 24 is lost.
        Check.same("19 a row", x.tick(1), 14);
        Check.same("19 the first one", pictureOf(x, 0, 0), "abcdefghijkl");
        Check.same("19 the other one", x.behind(0), 12);
        Check.same("19 in the tick after", x.tick(1), 14);
        Check.same("19 all", x.behind(0), 0);
        paint(x, 0, 4, "ABCDEFGHIJKL", "MNOPQRSTUVWX");
        Check.same("19 the sum of all", x.tick(20), 28);
    }

    private static void promise19RichestFirst() {
        Remotepane x = withDesktop();
        x.join(0, 3);
        x.join(0, 5);
        x.join(0, 5);
        paint(x, 0, 0, "abcdefghijkl");
        x.tick(1);
        Check.same("19 the most money, the lowest number", x.behind(1), 0);
        Check.same("19 the first has less", x.behind(0), 12);
        Check.same("19 the third has as much", x.behind(2), 12);
        x.tick(1);
        Check.same("19 then the third", x.behind(2), 0);
        Check.same("19 it had 10", x.money(2), 0);
        Check.same("19 the second is not behind", x.money(1), 5);
        x.tick(1);
        Check.same("19 the first at last", x.behind(0), 0);
    }

    private static void promise19DearChangeWaits() {
        Remotepane x = withDesktop();
        x.openSession();
        x.openWindow(1, 0, 0, 12, 8);
        x.join(0, 9);
        x.join(0, 8);
        x.join(1, 0);
        paint(x, 0, 0, "abcdefghijkl");
        x.draw(1, 0, 3, 0, 1, 1, 3);
        // 14 for the first; the second's 14 are too dear for 10, the poorest gets its 3.
        Check.same("19 what costs no more than what is left", x.tick(1), 17);
        Check.same("19 first", x.behind(0), 0);
        Check.same("19 second", x.behind(1), 12);
        Check.same("19 third", x.behind(2), 0);
        x.tick(20);
        Check.same("19 none is behind", x.meanBehind(), 0.0);
        justWhatIsLeft("ABCDEFGH", 24, 0);
        justWhatIsLeft("ABCDEFGHI", 14, 9);
    }

    private static void justWhatIsLeft(String line, int units, int behind) {
        Remotepane x = withDesktop();
        x.openSession();
        x.openWindow(1, 0, 0, 12, 8);
        x.join(0, 0);
        x.join(1, 1);
        paint(x, 0, 0, line);
        for (int column = 0; column < 12; column++) {
            x.draw(1, 0, column, 0, 1, 1, 50 + column);
        }
        Check.same("19 14, then one of 2 and " + line.length(), x.tick(1), units);
        Check.same("19 the rich one", x.behind(1), 0);
        Check.same("19 the other one", x.behind(0), behind);
    }

    private static void promise19MoneyDoesNotBar() {
        Remotepane x = withDesktop();
        x.join(0, 0);
        x.draw(0, 0, 0, 0, 1, 1, 1);
        x.draw(0, 0, 0, 2, 1, 1, 2);
        x.draw(0, 0, 0, 4, 1, 1, 3);
        x.draw(0, 0, 0, 6, 1, 1, 4);
        x.draw(0, 0, 4, 1, 1, 1, 5);
        x.draw(0, 0, 4, 3, 1, 1, 6);
        x.draw(0, 0, 4, 5, 1, 1, 7);
        x.draw(0, 0, 4, 7, 1, 1, 8);
        x.draw(0, 0, 8, 7, 1, 1, 9);
        Check.same("19 eight cells of 3 fill the line", x.tick(1), 24);
        Check.same("19 one is left", x.behind(0), 1);
        Check.same("19 row by row", x.picture(0, 8, 7), 0);
    }

    private static void promise20Carried() {
        Remotepane x = withDesktop();
        x.join(0, 0);
        x.join(0, 0);
        dot(x, 0, 0, 1);
        Check.same("20 none", x.carried(), 0);
        Check.same("20 two cells", x.tick(1), 6);
        Check.same("20 of all clients", x.carried(), 6);
        dot(x, 1, 0, 1);
        dot(x, 5, 0, 2);
        x.tick(3);
        Check.same("20 of all ticks", x.carried(), 18);
        Check.fails("20 a tick that is refused", RANGE, () -> x.tick(0));
        Check.same("20 carries nothing", x.carried(), 18);
    }
}
