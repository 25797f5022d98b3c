/**
 * The sentences on clients, changes and the line (promises 11 to 20) that name an edge: how many
 * clients there can be, bids, money up to 60, the sizes and ways of copies and fills, ties, the 24
 * units of a tick and what is left of them.
 */
public final class LineEdgeTests {
    private static final Class<IndexOutOfBoundsException> NO_SUCH = IndexOutOfBoundsException.class;
    private static final Class<IllegalArgumentException> RANGE = IllegalArgumentException.class;
    private static final Class<IllegalStateException> STATE = IllegalStateException.class;
    private static final String LETTERS =
            "abcdefghijklmnopqrstuvwxyzABCDEFGHIJKLMNOPQRSTUVWXYZ";

    public static void main(String[] args) {
        clientsFrom0To5();
        pictureAll0AtFirst();
        bidsFrom0To9();
        bidCountsFromTheNextTick();
        moneyUpTo60();
        moneyOf60IsNoMoreThan60();
        paysAtMostWhatItHas();
        behindFromNoneToAll();
        pictureAndSeenCells();
        rowCosts();
        rowEnds();
        firstCellRowByRow();
        copySizes();
        copyNotOneWide();
        copyOverRightCells();
        copyDownOverRightCells();
        copyNotFromThreeAway();
        copyBesideTheEdges();
        copyNotOverTheRightEdge();
        copyNotOverTheLeftEdge();
        copyLessWhatItBreaks();
        copyOfWhatIsBehindAnyway();
        copyOfLeastRowsAway();
        copyOfLeastColumnsAway();
        copyOfLeastWidth();
        fillSizes();
        fillOverRightCells();
        fillBesideTheEdges();
        fillOfTwoWays();
        fillOfWhatIsBehindAnyway();
        fillLessWhatItBreaks();
        fillOf0();
        exactFractionsOfRowAndFill();
        exactFractionsOfRowAndCopy();
        exactFractionsOfCopyAndFill();
        tickFrom1To20();
        ticksOneByOne();
        nothingToCarry();
        whatIsLeftIsLost();
        allOf24();
        oneAfterTheOther();
        lowestOfSixWithAsMuch();
        carriedOfAllTicks();
        meanOfAllClients();
        Check.end();
    }

    private static void clientsFrom0To5() {
        Remotepane x = Scene.sessions(2);
        for (int number = 0; number < 6; number++) {
            final int next = number + 1;
            Check.same("11 the next number", x.join(number % 2, 9), number);
            Check.same("11 no money", x.money(number), 0);
            Check.same("11 no guesses", x.guesses(number), 0);
            Check.same("11 nothing behind", x.behind(number), 0);
            Check.fails("11 none beyond", NO_SUCH, () -> x.money(next));
        }
        for (int session = 0; session < 2; session++) {
            final int s = session;
            Check.fails("11 6 are the most, of all sessions", STATE, () -> x.join(s, 0));
        }
        x.openSession();
        Check.fails("11 of a new one too", STATE, () -> x.join(2, 0));
    }

    private static void pictureAll0AtFirst() {
        Remotepane x = Scene.desktop();
        x.draw(0, 0, 0, 0, 12, 8, 255);
        x.tick(1);
        x.join(0, 9);
        for (int cell = 0; cell < 96; cell++) {
            Check.same("11 a picture of 0", x.picture(0, cell % 12, cell / 12), 0);
            Check.same("11 and seen so", x.seen(0, cell % 12, cell / 12), 0);
        }
        Check.same("11 all behind", x.behind(0), 96);
    }

    private static void bidsFrom0To9() {
        Remotepane x = Scene.looked(0);
        int money = 0;
        for (int bid = 0; bid <= 9; bid++) {
            Check.same("12 the one before", x.bid(0, bid), Math.max(0, bid - 1));
            Check.same("12 the same again", x.bid(0, bid), bid);
            x.tick(1);
            money += bid;
            Check.same("13 greater by the bid " + bid, x.money(0), money);
        }
        for (int bid : new int[] {-1, 10, Integer.MIN_VALUE, Integer.MAX_VALUE}) {
            Check.fails("12 bid " + bid, RANGE, () -> x.bid(0, bid));
            Check.same("12 it stays", x.bid(0, 9), 9);
            Check.fails("11 bid " + bid, RANGE, () -> x.join(0, bid));
        }
        Check.same("11 none has joined", x.join(0, 0), 1);
    }

    private static void bidCountsFromTheNextTick() {
        Remotepane x = Scene.looked(3);
        x.tick(1);
        Check.same("12 set behind a tick", x.bid(0, 8), 3);
        Check.same("12 it gives nothing yet", x.money(0), 3);
        x.tick(2);
        Check.same("12 then it does", x.money(0), 19);
        x.bid(0, 0);
        x.tick(20);
        Check.same("12 bid 0 gives nothing, and takes nothing", x.money(0), 19);
    }

    private static void moneyUpTo60() {
        int[][] bids = {{9, 9, 9, 9, 9, 6, 9}, {9, 9, 9, 9, 9, 7, 9}, {9, 9, 9, 9, 9, 9, 5, 1},
            {9, 9, 9, 9, 9, 9, 5, 2}, {9, 9, 9, 9, 9, 9, 6, 0}, {9, 9, 9, 9, 9, 9, 6, 1},
            {9, 9, 9, 9, 9, 9, 6, 9}};
        for (int[] run : bids) {
            Remotepane x = Scene.looked(0);
            for (int bid : run) {
                x.bid(0, bid);
                x.tick(1);
            }
            Check.same("13 up to 60, and no more", x.money(0), 60);
        }
        Remotepane x = Scene.looked(9);
        x.tick(6);
        x.bid(0, 5);
        x.tick(1);
        Check.same("13 59 is less", x.money(0), 59);
        x.bid(0, 0);
        x.tick(20);
        Check.same("13 59 stays", x.money(0), 59);
        Remotepane tens = Scene.looked(6);
        tens.tick(10);
        Check.same("13 60 by itself", tens.money(0), 60);
        tens.tick(1);
        Check.same("13 66 is 60", tens.money(0), 60);
    }

    /** 59 and 1, and 60 and 9, are as much: the lowest number is first. */
    private static void moneyOf60IsNoMoreThan60() {
        Remotepane x = Scene.looked(9);
        x.join(0, 9);
        x.tick(6);
        x.bid(0, 5);
        x.tick(1);
        x.bid(0, 1);
        Scene.paint(x, 0, 0, "abcdefghijkl");
        Check.same("19 a row for one of them", x.tick(1), 14);
        Check.same("19 60 and 9 are no more than 60", x.behind(0), 0);
        Check.same("19 the other one waits", x.behind(1), 12);
        Check.same("13 60 less 14", x.money(0), 46);
        Check.same("13 nothing paid", x.money(1), 60);
    }

    private static void paysAtMostWhatItHas() {
        for (int money = 0; money <= 9; money++) {
            Remotepane row = Scene.looked(money);
            Scene.dot(row, 0, 0, 1);
            Check.same("13 a cell costs 3", row.tick(1), 3);
            Check.same("13 paid of " + money, row.money(0), Math.max(0, money - 3));
            Check.same("13 it has its change", row.behind(0), 0);
            Remotepane fill = Scene.looked(money);
            fill.draw(0, 0, 0, 0, 12, 8, 1);
            Check.same("13 a fill costs 5", fill.tick(1), 5);
            Check.same("13 paid of " + money, fill.money(0), Math.max(0, money - 5));
            Check.same("13 it has its change", fill.behind(0), 0);
            Remotepane copy = Scene.looked(0);
            Scene.paint(copy, 0, 0, "abcdef", "ghijkl");
            Scene.settle(copy);
            Scene.paint(copy, 0, 2, "abcdef", "ghijkl");
            copy.bid(0, money);
            Check.same("13 a copy costs 6", copy.tick(1), 6);
            Check.same("13 paid of " + money, copy.money(0), Math.max(0, money - 6));
            Check.same("13 it has its change", copy.behind(0), 0);
        }
    }

    private static void behindFromNoneToAll() {
        Remotepane x = Scene.looked(0);
        Check.same("16 none", x.behind(0), 0);
        for (int cell = 0; cell < 96; cell++) {
            Scene.dot(x, cell % 12, cell / 12, 1 + cell);
            Check.same("16 one more", x.behind(0), cell + 1);
        }
        x.closeWindow(0, 0);
        Check.same("16 none, without a tick", x.behind(0), 0);
        Check.fails("17 nothing is next", java.util.NoSuchElementException.class, () -> x.next(0));
        Check.fails("18 nor does it cost", java.util.NoSuchElementException.class, () -> x.nextCost(0));
    }

    private static void pictureAndSeenCells() {
        Remotepane x = Scene.looked(0);
        int[][] corners = {{0, 0}, {11, 0}, {0, 7}, {11, 7}};
        for (int[] corner : corners) {
            Scene.dot(x, corner[0], corner[1], 1 + corner[0] + corner[1]);
        }
        x.tick(1);
        for (int[] corner : corners) {
            int due = 1 + corner[0] + corner[1];
            Check.same("14 a corner", x.picture(0, corner[0], corner[1]), due);
            Check.same("15 a corner", x.seen(0, corner[0], corner[1]), due);
        }
        int[][] beyond = {{-1, 0}, {-1, 7}, {12, 0}, {12, 7}, {0, -1}, {11, -1}, {0, 8}, {11, 8}};
        for (int[] cell : beyond) {
            Check.fails("14 beyond", NO_SUCH, () -> x.picture(0, cell[0], cell[1]));
            Check.fails("15 beyond", NO_SUCH, () -> x.seen(0, cell[0], cell[1]));
        }
    }

    private static void rowCosts() {
        for (int count = 1; count <= 12; count++) {
            for (int column : new int[] {0, 12 - count}) {
                Remotepane x = Scene.looked(0);
                Scene.paint(x, column, 7, LETTERS.substring(0, count));
                Check.same("17 a row of " + count, x.next(0), 'r');
                Check.same("18 2, and 1 for each", x.nextCost(0), 2 + count);
                Check.same("19 so it is carried", x.tick(1), 2 + count);
                Check.same("19 all are right", x.behind(0), 0);
            }
        }
    }

    private static void rowEnds() {
        Remotepane x = Scene.looked(0);
        Scene.paint(x, 0, 3, "ab.cdefghijk");
        Check.same("17 up to a cell that is right", x.nextCost(0), 4);
        Scene.dot(x, 0, 3, 0);
        Check.same("17 from the first one that is behind", x.nextCost(0), 3);
        Remotepane y = Scene.looked(0);
        Scene.paint(y, 10, 3, "ab");
        Scene.paint(y, 0, 4, "cdef");
        Check.same("17 not on into the next row", y.nextCost(0), 4);
        Remotepane z = Scene.looked(0);
        Scene.dot(z, 11, 7, 3);
        Check.same("17 the last cell of all", z.next(0), 'r');
        Check.same("18 the last cell of all", z.nextCost(0), 3);
    }

    private static void firstCellRowByRow() {
        Remotepane x = Scene.rivals();
        Scene.paint(x, 11, 2, "a");
        Scene.paint(x, 0, 3, "bcd");
        Check.same("17 the upper row, though farther right", x.nextCost(0), 3);
        Remotepane y = Scene.rivals();
        Scene.paint(y, 5, 2, "abc.de");
        Scene.paint(y, 0, 5, "fghijkl");
        Check.same("17 the left one, though others are more", y.nextCost(0), 5);
        Scene.oneChange("17", y);
        Check.same("17 it came", Scene.pictureRow(y, 0, 2), ".....abc....");
        Check.same("17 the lower one did not", Scene.pictureRow(y, 0, 5), "............");
    }

    /** Lines of so many different letters. */
    private static String[] block(int width, int height) {
        String[] lines = new String[height];
        for (int row = 0; row < height; row++) {
            lines[row] = LETTERS.substring(row * width, (row + 1) * width);
        }
        return lines;
    }

    private static void copied(int column, int row, int width, int height, int rows, int columns) {
        String what = "17 at " + column + ", " + row + " of " + width + " x " + height + " from "
                + rows + ", " + columns;
        String[] lines = block(width, height);
        Remotepane x = Scene.rivals();
        Scene.paint(x, column + columns, row + rows, lines);
        Scene.settle(x);
        Scene.paint(x, column, row, lines);
        Check.same(what, x.next(0), 'c');
        Check.same(what, x.nextCost(0), 6);
        Scene.oneChange(what, x);
        Check.same(what + " is right at once", x.behind(0), 0);
    }

    /** Flat ones of two or three, all behind, are dearer than as many cells of the row. */
    private static void copySizes() {
        for (int width = 2; width <= 6; width++) {
            for (int height = 1; height <= 4; height++) {
                if (height > 1 || width > 3) {
                    for (int way = 0; way < 25; way++) {
                        if (way != 12) {
                            copied(3, 2, width, height, way / 5 - 2, way % 5 - 2);
                        }
                    }
                }
            }
        }
        tooWide();
        tooHigh();
    }

    private static void tooWide() {
        Remotepane x = Scene.rivals();
        Scene.paint(x, 2, 0, "abcdefg");
        Scene.settle(x);
        Scene.paint(x, 2, 2, "abcdefg");
        Check.same("17 a copy of a part", x.next(0), 'c');
        Scene.oneChange("17", x);
        Check.same("17 six wide, not seven", Scene.pictureRow(x, 0, 2), "..abcdef....");
    }

    private static void tooHigh() {
        Remotepane x = Scene.rivals();
        Scene.paint(x, 2, 0, "ab", "cd", "ef", "gh", "ij");
        Scene.settle(x);
        Scene.paint(x, 2, 2, "ab", "cd", "ef", "gh", "ij");
        Check.same("17 a copy of a part", x.next(0), 'c');
        Scene.oneChange("17", x);
        Check.same("17 four high", Scene.pictureRow(x, 0, 5), "..gh........");
        Check.same("17 not five", Scene.pictureRow(x, 0, 6), "............");
    }

    private static void copyNotOneWide() {
        Remotepane x = Scene.looked(0);
        Scene.paint(x, 9, 2, "a", "b", "c", "d");
        Scene.settle(x);
        Scene.paint(x, 11, 2, "a", "b", "c", "d");
        Check.same("17 there is no room for two", x.next(0), 'r');
        Check.same("17 one cell of the row", x.nextCost(0), 3);
        Remotepane y = Scene.looked(0);
        Scene.paint(y, 4, 2, "aA.w", "bB.x", "cC.y", "dD.z");
        Scene.settle(y);
        Scene.paint(y, 6, 2, "aw", "bx", "cy", "dz");
        Check.same("17 a second one would break as many", y.next(0), 'r');
        Check.same("17 one cell of the row", y.nextCost(0), 3);
        Remotepane z = Scene.looked(0);
        Scene.paint(z, 4, 2, "aw.w", "bx.x", "cy.y", "dz.z");
        Scene.settle(z);
        Scene.paint(z, 6, 2, "aw", "bx", "cy", "dz");
        Check.same("17 a second one that breaks none", z.next(0), 'c');
    }

    /** A first and a last cell by a copy are 2/6, the first one by itself 1/3: the copy is first. */
    private static void copyOverRightCells() {
        for (int width = 2; width <= 12; width++) {
            String line = "a" + "............".substring(0, width - 2) + "b";
            for (int rows : new int[] {-2, -1, 1, 2}) {
                Remotepane x = Scene.rivals();
                Scene.paint(x, 0, 3 + rows, line);
                Scene.settle(x);
                Scene.paint(x, 0, 3, line);
                boolean isCopy = width >= 3 && width <= 6;
                Check.same("17 " + line + " from " + rows, x.next(0), isCopy ? 'c' : 'r');
                Check.same("18 " + line + " from " + rows, x.nextCost(0), isCopy ? 6 : width == 2 ? 4 : 3);
            }
        }
        for (String line : new String[] {"ab.d", "ab..e", "ab...f"}) {
            Remotepane x = Scene.looked(0);
            Scene.paint(x, 3, 3, line);
            Scene.settle(x);
            Scene.paint(x, 3, 5, line);
            Check.same("17 3/6 and 2/4: " + line, x.next(0), 'c');
        }
    }

    private static void copyDownOverRightCells() {
        for (int height = 2; height <= 6; height++) {
            for (int column = 0; column <= 11; column++) {
                Remotepane x = Scene.looked(0);
                int aside = column < 6 ? 2 : -2;
                Scene.dot(x, column + aside, 1, 'a');
                Scene.dot(x, column + aside, height, 'b');
                Scene.settle(x);
                Scene.dot(x, column, 1, 'a');
                Scene.dot(x, column, height, 'b');
                boolean isCopy = height <= 4 && column != 11;
                Check.same("17 one and one of " + height + " at " + column, x.next(0), isCopy ? 'c' : 'r');
            }
        }
    }

    private static void copyNotFromThreeAway() {
        for (int rows = -3; rows <= 3; rows++) {
            for (int columns = -3; columns <= 3; columns++) {
                if (Math.abs(rows) == 3 || Math.abs(columns) == 3) {
                    Remotepane x = Scene.looked(0);
                    Scene.paint(x, 4 + columns, 3 + rows, block(4, 2));
                    Scene.settle(x);
                    Scene.paint(x, 4, 3, block(4, 2));
                    Check.same("17 not from " + rows + ", " + columns, x.next(0), 'r');
                    Check.same("17 cells of the row, then", x.nextCost(0), 6);
                }
            }
        }
    }

    private static void copyBesideTheEdges() {
        for (int away = 1; away <= 2; away++) {
            for (int width = 2; width <= 6; width += 4) {
                int right = 12 - width;
                copied(0, 0, width, 4, away, 0);
                copied(0, 0, width, 4, 0, away);
                copied(0, 0, width, 4, away, away);
                copied(right, 0, width, 4, away, 0);
                copied(right, 0, width, 4, 0, -away);
                copied(right, 0, width, 4, away, -away);
                copied(0, 4, width, 4, -away, 0);
                copied(0, 4, width, 4, 0, away);
                copied(0, 4, width, 4, -away, away);
                copied(right, 4, width, 4, -away, 0);
                copied(right, 4, width, 4, 0, -away);
                copied(right, 4, width, 4, -away, -away);
                copied(away, away, width, 4, -away, -away);
                copied(right - away, 4 - away, width, 4, away, away);
                copied(right - away, away, width, 4, -away, away);
                copied(away, 4 - away, width, 4, away, -away);
            }
        }
    }

    /** What stands at the left of the next rows is no neighbour of what stands at the right edge. */
    private static void copyNotOverTheRightEdge() {
        Remotepane x = Scene.rivals();
        Scene.paint(x, 10, 2, "ab", "cd", "ef", "gh");
        Scene.paint(x, 0, 3, "AB", "CD", "EF", "GH");
        Scene.settle(x);
        Scene.paint(x, 8, 2, "abAB", "cdCD", "efEF", "ghGH");
        Check.same("17 a copy, two wide", x.next(0), 'c');
        Scene.oneChange("17", x);
        Check.same("17 from wholly within the picture", Scene.pictureRow(x, 0, 2), "........abab");
        Check.same("17 from wholly within the picture", Scene.pictureRow(x, 0, 5), "EF......ghgh");
    }

    private static void copyNotOverTheLeftEdge() {
        Remotepane x = Scene.looked(0);
        Scene.paint(x, 11, 1, "A", "B", "C", "D");
        Scene.paint(x, 0, 2, "abc", "def", "ghi", "jkl");
        Scene.settle(x);
        Scene.paint(x, 1, 2, "Aabc", "Bdef", "Cghi", "Djkl");
        Check.same("17 not from the rows above", x.next(0), 'r');
    }

    /** Three cells of a row are 3/5, a copy that brings a fourth one 4/6, less one 3/6. */
    private static void copyLessWhatItBreaks() {
        for (String beneath : new String[] {"dxy", "dxz", "dwy", "dwz"}) {
            Remotepane x = Scene.looked(0);
            Scene.paint(x, 2, 1, "abc", beneath);
            Scene.paint(x, 3, 4, "xy");
            Scene.settle(x);
            Scene.paint(x, 2, 3, "abc", "dxy");
            Check.same("17 from " + beneath, x.next(0), beneath.equals("dxy") ? 'c' : 'r');
        }
    }

    /** A cell that was behind, and is so still, counts neither way. */
    private static void copyOfWhatIsBehindAnyway() {
        for (String source : new String[] {"abcde", "abcdz", "zbcde"}) {
            Remotepane x = Scene.looked(0);
            Scene.paint(x, 2, 1, source);
            Scene.settle(x);
            Scene.paint(x, 2, 3, "abcdefghijk".substring(0, 5));
            // Five cells of a row are 5/7; a copy of all five 5/6, of four of them 4/6.
            Check.same("17 from " + source, x.next(0), source.equals("abcde") ? 'c' : 'r');
        }
        Remotepane x = Scene.looked(0);
        Scene.paint(x, 2, 1, "abz", "dez");
        Scene.settle(x);
        Scene.paint(x, 2, 3, "abc", "def");
        Check.same("17 four right ones are 4/6, three of the row 3/5", x.next(0), 'c');
    }

    /** Two places bring as many right ones; the cells between tell from which they came. */
    private static void copiedFromFirst(int rows, int columns, int rowsThen, int columnsThen) {
        String what = "17 from " + rows + ", " + columns + ", not " + rowsThen + ", " + columnsThen;
        Remotepane x = Scene.rivals();
        Scene.paint(x, 5 + columns, 3 + rows, "aPb", "cQd");
        Scene.paint(x, 5 + columnsThen, 3 + rowsThen, "aRb", "cSd");
        Scene.settle(x);
        Scene.paint(x, 5, 3, "apb", "cqd");
        Check.same(what, x.next(0), 'c');
        Scene.oneChange(what, x);
        Check.same(what, Scene.pictureRow(x, 0, 3).substring(5, 8), "aPb");
        Check.same(what, Scene.pictureRow(x, 0, 4).substring(5, 8), "cQd");
    }

    private static void copyOfLeastRowsAway() {
        copiedFromFirst(-2, -2, 2, -2);
        copiedFromFirst(-2, 0, 2, 0);
        copiedFromFirst(-2, 2, 2, -2);
        copiedFromFirst(-2, 2, 0, -2);
        copiedFromFirst(-1, 2, 1, -2);
        copiedFromFirst(0, 2, 2, -2);
        copiedFromFirst(-2, 1, 2, -1);
    }

    private static void copyOfLeastColumnsAway() {
        copiedFromFirst(-2, -2, -2, 2);
        copiedFromFirst(-2, -2, -2, 1);
        copiedFromFirst(-2, -1, -2, 2);
        copiedFromFirst(2, -2, 2, 2);
        copiedFromFirst(2, -1, 2, 2);
    }

    /** 2 x 4 and 4 x 2 bring eight right ones each, and no other one more. */
    private static void copyOfLeastWidth() {
        Remotepane x = Scene.rivals();
        Scene.paint(x, 2, 1, "abcd", "efgh", "ijkl", "mnop");
        Scene.settle(x);
        Scene.paint(x, 4, 3, "abcd", "efgh", "ij..", "mn..");
        Check.same("17 a copy", x.next(0), 'c');
        Scene.oneChange("17", x);
        Check.same("17 two wide", Scene.pictureRow(x, 0, 3), "..ijab......");
        Check.same("17 and four high", Scene.pictureRow(x, 0, 6), "....mn......");
    }

    private static void filled(int column, int row, int width, int height, int colour) {
        String what = "17 a fill at " + column + ", " + row + " of " + width + " x " + height;
        Remotepane x = Scene.looked(0);
        x.draw(0, 0, column, row, width, height, colour);
        Check.same(what, x.next(0), 'f');
        Check.same(what, x.nextCost(0), 5);
        Check.same(what + " at once", x.tick(1), 5);
        Check.same(what + " and nothing is behind", x.behind(0), 0);
    }

    /** Less than three cells of one row are cheaper cell by cell. */
    private static void fillSizes() {
        for (int width = 1; width <= 12; width++) {
            for (int height = 1; height <= 8; height++) {
                if (height > 1 || width > 2) {
                    filled(0, 0, width, height, 1);
                }
            }
        }
        Remotepane x = Scene.looked(0);
        x.draw(0, 0, 0, 0, 2, 1, 1);
        Check.same("17 two of a row: 2/4, not 2/5", x.next(0), 'r');
        x.draw(0, 0, 0, 0, 1, 2, 2);
        x.draw(0, 0, 1, 0, 1, 1, 0);
        Check.same("17 two of a column: 2/5, not 1/3", x.next(0), 'f');
    }

    /** A first and a last cell by a fill are 2/5, the first one by itself 1/3. */
    private static void fillOverRightCells() {
        for (int width = 1; width <= 12; width++) {
            for (int height = 1; height <= 8; height++) {
                Remotepane x = Scene.looked(0);
                x.draw(0, 0, 0, 0, width, height, 'o');
                Scene.dot(x, 0, 0, 'p');
                Scene.dot(x, width - 1, height - 1, 'q');
                Scene.settle(x);
                x.draw(0, 0, 0, 0, width, height, 'o');
                boolean isFill = width * height > 2 || height == 2;
                Check.same("17 two of " + width + " x " + height, x.next(0), isFill ? 'f' : 'r');
                Check.same("19 they come", x.tick(1), isFill ? 5 : 2 + width);
            }
        }
    }

    private static void fillBesideTheEdges() {
        filled(11, 0, 1, 8, 255);
        filled(11, 6, 1, 2, 255);
        filled(0, 7, 12, 1, 255);
        filled(9, 7, 3, 1, 1);
        filled(10, 6, 2, 2, 1);
        filled(0, 6, 1, 2, 1);
        filled(1, 1, 11, 7, 254);
        Remotepane x = Scene.rivals();
        x.draw(0, 0, 10, 2, 2, 3, 'o');
        x.draw(0, 0, 0, 3, 2, 3, 'o');
        Check.same("17 six by a fill", x.next(0), 'f');
        Scene.oneChange("17", x);
        Check.same("17 it does not go over the edge", Scene.pictureRow(x, 0, 3), "..........oo");
        Check.same("17 it does not go over the edge", Scene.pictureRow(x, 0, 5), "............");
    }

    /** Three to the right and three down are as many: the least width is first. */
    private static void fillOfTwoWays() {
        Remotepane x = Scene.rivals();
        Scene.paint(x, 3, 2, "ooo", "o", "o");
        Check.same("17 a fill", x.next(0), 'f');
        Scene.oneChange("17", x);
        Check.same("17 not to the right", Scene.pictureRow(x, 0, 2), "...o........");
        Check.same("17 down", Scene.pictureRow(x, 0, 4), "...o........");
        Check.same("17 two are left", x.behind(0), 2);
    }

    /** Cells that should have another colour get that of the fill too, and are behind then. */
    private static void fillOfWhatIsBehindAnyway() {
        Remotepane x = Scene.rivals();
        Scene.paint(x, 4, 4, "oopoo", "ooooo", "ooooo");
        Check.same("17 a fill", x.next(0), 'f');
        Scene.oneChange("17", x);
        Check.same("17 with one colour", Scene.pictureRow(x, 0, 4), "....ooooo...");
        Check.same("17 one is behind", x.behind(0), 1);
        Check.same("17 which is next", x.nextCost(0), 3);
    }

    private static void fillLessWhatItBreaks() {
        Remotepane x = Scene.rivals();
        Scene.paint(x, 4, 5, "...q.");
        Scene.settle(x);
        Scene.paint(x, 4, 4, "ooooo", "oooqo");
        Check.same("17 nine, less one", x.next(0), 'f');
        Scene.oneChange("17", x);
        Check.same("17 the right one is broken", Scene.pictureRow(x, 0, 5), "....ooooo...");
        Check.same("17 and behind", x.behind(0), 1);
        Remotepane y = Scene.rivals();
        Scene.paint(y, 4, 5, "qqqq.");
        Scene.settle(y);
        Scene.paint(y, 4, 4, "ooooo", "qqqqo");
        Scene.oneChange("17", y);
        Check.same("17 one, less four, is not taken", Scene.pictureRow(y, 0, 5), "....qqqq....");
    }

    private static void fillOf0() {
        Remotepane x = Scene.looked(0);
        x.draw(0, 0, 0, 0, 12, 8, 255);
        x.tick(1);
        x.closeWindow(0, 0);
        Check.same("17 all behind", x.behind(0), 96);
        Check.same("17 with the colour 0", x.next(0), 'f');
        Check.same("17 at once", x.tick(1), 5);
        Check.same("17 right", x.behind(0), 0);
    }

    /** So many cells of a row, of which the first ones have one colour. */
    private static void rowAgainstFill(int same, int count, char due) {
        Remotepane x = Scene.looked(0);
        Scene.paint(x, 0, 0, LETTERS.substring(0, count));
        x.draw(0, 0, 0, 0, same, 1, 200);
        Check.same("17 " + count + " of a row, " + same + " of one colour", x.next(0), due);
    }

    private static void exactFractionsOfRowAndFill() {
        rowAgainstFill(3, 3, 'f'); // 3/5 and 3/5
        rowAgainstFill(3, 4, 'r'); // 3/5 and 4/6
        rowAgainstFill(4, 4, 'f'); // 4/5 and 4/6
        rowAgainstFill(4, 7, 'f'); // 4/5 and 7/9
        rowAgainstFill(4, 8, 'f'); // 4/5 and 8/10
        rowAgainstFill(4, 9, 'r'); // 4/5 and 9/11
        rowAgainstFill(5, 12, 'f'); // 5/5 and 12/14
        rowAgainstFill(2, 2, 'r'); // 2/5 and 2/4
    }

    /** So many cells of a row, of which the first ones stand two rows above. */
    private static void rowAgainstCopy(int there, int count, char due) {
        Remotepane x = Scene.looked(0);
        Scene.paint(x, 0, 2, LETTERS.substring(0, there));
        Scene.settle(x);
        Scene.paint(x, 0, 4, LETTERS.substring(0, count));
        Check.same("17 " + count + " of a row, " + there + " to copy", x.next(0), due);
    }

    private static void exactFractionsOfRowAndCopy() {
        rowAgainstCopy(3, 3, 'r'); // 3/6 and 3/5
        rowAgainstCopy(4, 4, 'c'); // 4/6 and 4/6
        rowAgainstCopy(4, 5, 'r'); // 4/6 and 5/7
        rowAgainstCopy(5, 9, 'c'); // 5/6 and 9/11
        rowAgainstCopy(5, 10, 'c'); // 5/6 and 10/12
        rowAgainstCopy(5, 11, 'r'); // 5/6 and 11/13
        rowAgainstCopy(6, 12, 'c'); // 6/6 and 12/14
    }

    private static void copyAgainstFill(String row, char due) {
        for (int away : new int[] {-2, -1, 1, 2}) {
            Remotepane x = Scene.looked(0);
            Scene.paint(x, 0, 3 + away, row);
            Scene.settle(x);
            Scene.paint(x, 0, 3, row);
            Check.same("17 a copy from " + away + " or a fill of " + row, x.next(0), due);
        }
    }

    private static void exactFractionsOfCopyAndFill() {
        copyAgainstFill("aaaaab", 'c'); // 6/6 and 5/5
        copyAgainstFill("aaaaa", 'f'); // 5/6 and 5/5
        copyAgainstFill("aaaab", 'c'); // 5/6 and 4/5
        copyAgainstFill("aaaa", 'f'); // 4/6 and 4/5
        copyAgainstFill("aaaaaa", 'f'); // 6/6 and 6/5
    }

    private static void tickFrom1To20() {
        Remotepane x = Scene.looked(1);
        x.tick(1);
        Check.same("19 one", x.money(0), 1);
        x.tick(20);
        Check.same("19 20 more", x.money(0), 21);
        for (int ticks : new int[] {0, 21, -1, Integer.MIN_VALUE, Integer.MAX_VALUE}) {
            Check.fails("19 not " + ticks, RANGE, () -> x.tick(ticks));
            Check.same("19 no time goes by", x.money(0), 21);
        }
    }

    private static Remotepane busy() {
        Remotepane x = Scene.looked(4);
        x.join(0, 7);
        Scene.paint(x, 0, 0, LETTERS.substring(0, 12), LETTERS.substring(12, 24));
        x.draw(0, 0, 3, 3, 5, 3, 66);
        x.move(0);
        x.record(0);
        x.type(0, 'a');
        x.type(1, 'b');
        return x;
    }

    private static void ticksOneByOne() {
        for (int ticks = 1; ticks <= 20; ticks++) {
            Remotepane x = busy();
            Remotepane y = busy();
            int units = 0;
            for (int i = 0; i < ticks; i++) {
                units += y.tick(1);
            }
            Check.same("19 as many ticks of 1: " + ticks, x.tick(ticks), units);
            Check.same("20 carried", x.carried(), y.carried());
            Check.same("13 money", x.money(0) * 100 + x.money(1), y.money(0) * 100 + y.money(1));
            Check.same("33 behind", x.meanBehind(), y.meanBehind());
            Check.same("29 moved", x.host(0), y.host(0));
            Check.same("32 noted", x.noted(0), y.noted(0));
            Check.same("10 screen", Scene.screenRow(x, 0, 0), Scene.screenRow(y, 0, 0));
            Check.same("30 ticks", x.record(0), ticks);
        }
    }

    private static void nothingToCarry() {
        Check.same("19 nothing there", new Remotepane().tick(20), 0);
        Check.same("19 sessions alone", Scene.sessions(4).tick(20), 0);
        Remotepane unlooked = Scene.desktop();
        unlooked.draw(0, 0, 0, 0, 12, 8, 3);
        Check.same("19 no client", unlooked.tick(20), 0);
        Remotepane x = Scene.looked(9);
        Check.same("19 none behind", x.tick(3), 0);
        Check.same("19 nothing is paid", x.money(0), 27);
        Scene.dot(x, 0, 0, 1);
        Check.same("19 one", x.tick(3), 3);
        Check.same("19 paid once", x.money(0), 51);
        Check.same("20 in all", x.carried(), 3);
    }

    private static void whatIsLeftIsLost() {
        Remotepane x = Scene.looked(0);
        Scene.paint(x, 0, 0, LETTERS.substring(0, 12));
        Scene.paint(x, 0, 2, LETTERS.substring(12, 24));
        Scene.paint(x, 0, 4, LETTERS.substring(24, 36));
        Scene.paint(x, 0, 6, LETTERS.substring(36, 48));
        for (int row = 1; row <= 4; row++) {
            Check.same("19 10 are left, and lost", x.tick(1), 14);
            Check.same("19 a row a tick", x.behind(0), 48 - 12 * row);
        }
        Check.same("19 at last", x.tick(1), 0);
        Check.same("20 in all", x.carried(), 56);
    }

    private static void allOf24() {
        Remotepane x = Scene.looked(0);
        for (int i = 0; i < 12; i++) {
            Scene.dot(x, i % 3 * 4, i / 3 * 2, 1 + i);
        }
        Check.same("19 eight cells of 3", x.tick(1), 24);
        Check.same("19 four are left", x.behind(0), 4);
        Check.same("19 no more than 24", x.tick(1), 12);
        Remotepane y = Scene.looked(0);
        Scene.paint(y, 0, 0, LETTERS.substring(0, 12));
        Scene.paint(y, 0, 3, LETTERS.substring(12, 20));
        Check.same("19 14 and 10", y.tick(1), 24);
        Remotepane z = Scene.looked(0);
        Scene.paint(z, 0, 0, LETTERS.substring(0, 12));
        Scene.paint(z, 0, 3, LETTERS.substring(12, 21));
        Check.same("19 14, and 11 is too much", z.tick(1), 14);
        Check.same("19 then 11", z.tick(1), 11);
    }

    /** Dots at which each change is one cell, for two clients that have so much money. */
    private static void dotsForTwo(int first, int second, int behindFirst, int behindSecond) {
        Remotepane x = Scene.looked(first);
        x.join(0, second);
        for (int i = 0; i < 12; i++) {
            Scene.dot(x, i % 3 * 4, i / 3 * 2, 1 + i);
        }
        String what = "19 money " + first + " and " + second;
        Check.same(what, x.tick(1), 24);
        Check.same(what + ", the first", x.behind(0), behindFirst);
        Check.same(what + ", the second", x.behind(1), behindSecond);
    }

    private static void oneAfterTheOther() {
        // 9, 6, 3, 0, 0 against 8, 5, 2: each time the one with the most, the lowest of several.
        dotsForTwo(9, 8, 12 - 5, 12 - 3);
        dotsForTwo(8, 9, 12 - 5, 12 - 3);
        dotsForTwo(6, 6, 12 - 6, 12 - 2);
        dotsForTwo(0, 0, 12 - 8, 12);
        dotsForTwo(0, 1, 12 - 7, 12 - 1);
        dotsForTwo(0, 9, 12 - 5, 12 - 3);
    }

    private static void lowestOfSixWithAsMuch() {
        Remotepane x = Scene.desktop();
        for (int client = 0; client < 6; client++) {
            x.join(0, client == 0 ? 3 : 4);
        }
        Scene.paint(x, 0, 0, LETTERS.substring(0, 12));
        int[] order = {1, 2, 3, 4, 5, 0};
        for (int client : order) {
            Check.same("19 12 behind", x.behind(client), 12);
            x.tick(1);
            Check.same("19 now " + client, x.behind(client), 0);
        }
        Check.same("19 none", x.meanBehind(), 0.0);
        Check.same("20 six rows", x.carried(), 84);
    }

    private static void carriedOfAllTicks() {
        Remotepane x = Scene.looked(0);
        long sum = 0;
        for (int i = 1; i <= 100; i++) {
            x.draw(0, 0, 0, 0, 12, 8, i);
            sum += x.tick(i % 20 + 1);
            Check.same("20 in all", x.carried(), sum);
        }
        Check.same("20 100 fills", sum, 500);
    }

    private static void meanOfAllClients() {
        Remotepane x = Scene.desktop();
        x.openSession();
        x.join(0, 0);
        x.draw(0, 0, 0, 0, 12, 8, 9);
        Check.same("33 all of one", x.meanBehind(), 96.0);
        for (int client = 1; client < 6; client++) {
            x.join(1, 0);
            Check.same("33 of " + (client + 1), x.meanBehind(), 96.0 / (client + 1));
        }
        x.closeWindow(0, 0);
        Check.same("33 none", x.meanBehind(), 0.0);
        x.openWindow(1, 0, 0, 1, 1);
        x.draw(1, 0, 0, 0, 1, 1, 1);
        Check.same("33 one for five of six", x.meanBehind(), 5.0 / 6.0);
    }
}
