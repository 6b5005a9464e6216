/** Promises 36 to 39: systems of states. */
public final class SystemTest {
    public static void main(String[] args) {
        moves();
        conforms();
        least();
        sets();
        can();
        bad();
        Talk.finish();
    }

    private static MatchHouse house(int... moves) {
        MatchHouse x = new MatchHouse();
        for (int i = 0; i < moves.length; i += 4) x.move(moves[i], moves[i + 1], moves[i + 2], moves[i + 3], true);
        return x;
    }

    private static void broken(String what, MatchHouse x, int m, int n, int... row) {
        Talk.due(what, x.conforms(m, n), row.length == 0 ? 1 : 0);
        Talk.due("length of " + what, x.row(-1), row.length);
        for (int i = 0; i < row.length; i++) Talk.due("act " + i + " of " + what, x.row(i), row[i]);
        Talk.due("behind " + what, x.row(row.length), MatchHouse.NONE);
        Talk.due("row -2", x.row(-2), MatchHouse.NONE);
    }

    private static void moves() {
        MatchHouse x = new MatchHouse();
        Talk.due("was not", x.move(3, 7, 7, 7, true), 0);
        Talk.due("was", x.move(3, 7, 7, 7, true), 1);
        Talk.due("other", x.move(3, 7, 7, 6, false), 0);
        Talk.due("was, goes", x.move(3, 7, 7, 7, false), 1);
        Talk.due("is gone", x.move(3, 7, 7, 7, false), 0);
        x.move(0, 0, 4, 1, true);
        x.move(0, 0, 4, 2, true);
        Talk.due("both are there", x.move(0, 0, 4, 1, false) + 2 * x.move(0, 0, 4, 2, false), 3);
    }

    private static void conforms() {
        broken("none moves", house(), 0, 1);
        broken("itself", house(0, 0, 0, 1, 0, 1, 5, 0), 0, 0);
        broken("tells what the other can't", house(0, 0, 5, 0), 0, 1, 5);
        broken("tells less", house(1, 0, 5, 0, 1, 0, 6, 0, 0, 0, 6, 0), 0, 1);
        broken("is quiet, the other not", house(1, 0, 5, 0), 0, 1, 8);
        broken("is asked more", house(0, 0, 0, 1, 0, 1, 5, 1), 0, 1);
        broken("is asked less", house(1, 0, 0, 1, 1, 1, 5, 1), 0, 1);
        broken("asked, then told", house(0, 0, 0, 1, 0, 1, 5, 1, 1, 0, 0, 1, 1, 1, 6, 1), 0, 1, 0, 5);
        broken("asked, then quiet", house(0, 0, 3, 1, 1, 0, 3, 1, 1, 1, 4, 0), 0, 1, 3, 8);
        broken("behind quiet", house(0, 0, 0, 1, 0, 1, 4, 1, 0, 0, 0, 2, 1, 0, 0, 1, 1, 0, 0, 2, 1, 1, 4, 1), 0, 1);
        // m may be quiet at first and go on by 8; what is told behind it counts.
        broken("8 leads to itself", house(0, 0, 0, 1, 0, 1, 4, 0, 1, 0, 0, 1, 1, 1, 5, 0), 0, 1, 0, 4);
    }

    private static void least() {
        // Two breaks of the same length: the lesser act at the first place where they differ.
        MatchHouse x = house(0, 0, 1, 1, 0, 1, 7, 0, 0, 0, 2, 2, 0, 2, 4, 0, 1, 0, 1, 1, 1, 0, 2, 2);
        broken("1 ahead of 2", x, 0, 1, 1, 7);
        x.move(0, 1, 6, 0, true);
        broken("6 ahead of 7", x, 0, 1, 1, 6);
        x.move(0, 0, 0, 3, true);
        x.move(1, 0, 0, 3, true);
        broken("0 is no break", x, 0, 1, 1, 6);
        x.move(0, 3, 0, 4, true);
        x.move(1, 3, 0, 4, true);
        x.move(0, 4, 4, 4, true);
        broken("a longer one does not count", x, 0, 1, 1, 6);
        x.move(0, 0, 7, 0, true);
        broken("the shortest", x, 0, 1, 7);
        // A chain of seven, each asked by another act.
        x = new MatchHouse();
        for (int i = 0; i < 7; i++) {
            x.move(2, i, i % 4, i + 1, true);
            x.move(3, i, i % 4, i + 1, true);
        }
        x.move(2, 7, 4, 7, true);
        broken("seven, then 4", x, 2, 3, 0, 1, 2, 3, 0, 1, 2, 4);
        broken("seven, then quiet", x, 3, 2, 0, 1, 2, 3, 0, 1, 2, 8);
    }

    private static void sets() {
        // The other one may be in either of two states behind 0, so it can tell 4 and 5.
        MatchHouse x = house(1, 0, 0, 1, 1, 0, 0, 2, 1, 1, 4, 0, 1, 2, 5, 0, 0, 0, 0, 1, 0, 1, 4, 0);
        broken("one of two", x, 0, 1);
        x.move(0, 1, 5, 0, true);
        broken("both of two", x, 0, 1);
        broken("less than itself", x, 1, 0);
        x.move(0, 0, 0, 3, true);
        broken("a third one is quiet", x, 0, 1, 0, 8);
        // Behind 0 8 only the quiet state is left.
        x = house(0, 0, 0, 1, 0, 0, 0, 2, 0, 1, 4, 0, 0, 2, 0, 3, 0, 3, 5, 0, 1, 0, 0, 1, 1, 0, 0, 2, 1, 1, 4, 0, 1, 1, 0, 3, 1, 3, 5, 0);
        broken("0 8 0 can't be gone", x, 0, 1);
        x.move(1, 2, 0, 4, true);
        broken("0 0 8 and 0 8 0 5", x, 0, 1, 0, 8, 0, 5);
    }

    private static void can() {
        MatchHouse x = house(0, 0, 0, 1, 0, 0, 0, 2, 0, 1, 5, 1, 0, 2, 6, 0, 1, 0, 0, 1, 1, 1, 6, 1);
        broken("0 5", x, 0, 1, 0, 5);
        int[][][] want = {{{1, 0, 0, 0, 0, 0, 0, 0, 1}, {0, 0, 0, 0, 0, 1, 1, 0, 0}, {0, 0, 0, 0, 0, 1, 0, 0, 0}},
            {{1, 0, 0, 0, 0, 0, 0, 0, 1}, {0, 0, 0, 0, 0, 0, 1, 0, 0}, {0, 0, 0, 0, 0, 0, 0, 0, 0}},
            {{0, 0, 0, 0, 0, 0, 0, 0, 1}, {0, 0, 0, 0, 0, 0, 0, 0, 0}, {0, 0, 0, 0, 0, 0, 0, 0, 0}}};
        for (int m = 0; m < 3; m++) {
            for (int k = 0; k < 3; k++) {
                for (int act = 0; act < 9; act++) Talk.due("can " + m + " " + k + " " + act, x.can(m, k, act), want[m][k][act]);
            }
        }
        Talk.due("more than it has", x.can(0, 3, 0), MatchHouse.BAD);
        x.move(2, 0, 0, 5, true);
        x.move(2, 5, 3, 5, true);
        Talk.due("as it is now", x.can(2, 1, 3), 1);
        Talk.due("a bad call", x.conforms(0, 4), MatchHouse.BAD);
        Talk.due("changes nothing", x.row(1), 5);
        Talk.due("conforms", x.conforms(1, 1), 1);
        Talk.due("no break", x.row(-1), 0);
        Talk.due("no acts", x.can(0, 1, 0), MatchHouse.BAD);
    }

    private static void bad() {
        MatchHouse x = new MatchHouse();
        int[][] moves = {{-1, 0, 0, 0}, {4, 0, 0, 0}, {0, -1, 0, 0}, {0, 8, 0, 0}, {0, 0, -1, 0}, {0, 0, 8, 0}, {0, 0, 0, -1}, {0, 0, 0, 8}};
        for (int[] m : moves) Talk.due("bad move", x.move(m[0], m[1], m[2], m[3], true), MatchHouse.BAD);
        Talk.due("no break", x.row(-1), 0);
        Talk.due("no act", x.row(0), MatchHouse.NONE);
        Talk.due("bad", x.conforms(-1, 0), MatchHouse.BAD);
        Talk.due("bad", x.conforms(4, 0), MatchHouse.BAD);
        Talk.due("bad", x.conforms(0, -1), MatchHouse.BAD);
        Talk.due("bad", x.can(4, 0, 0), MatchHouse.BAD);
        Talk.due("bad", x.can(-1, 0, 0), MatchHouse.BAD);
        Talk.due("bad", x.can(0, -1, 0), MatchHouse.BAD);
        Talk.due("bad", x.can(0, 1, 0), MatchHouse.BAD);
        Talk.due("bad", x.can(0, 0, -1), MatchHouse.BAD);
        Talk.due("bad", x.can(0, 0, 9), MatchHouse.BAD);
        Talk.due("good", x.can(3, 0, 8), 1);
    }
}
