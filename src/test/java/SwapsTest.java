import java.util.Arrays;

/** Promise 21: SWAPS of every way to sit on a few cells, against swaps that are really made, breadth first. */
public final class SwapsTest {
    /** Ends of rows, neighbours, and the first and last cell of all. */
    private static final int[] CELLS = {0, 29, 5, 6, 7, 17, 24, 12};
    private static final byte UNKNOWN = -1;

    public static void main(String[] args) {
        Desk.part("promise 21");
        everyWay(8, 0, 0, 1, 2, 3, 4, 5, 6);
        everyWay(7, 0, 6, 5, 4, 3, 2, 1, 0);
        everyWay(7, 0, 0, 1, 2, 3, 4, 5);
        everyWay(7, 0, 0, 1, 0, 2, 3, 1, 4);
        everyWay(7, 0, 3, 3, 2, 2, 1, 1, 0);
        everyWay(7, 0, 4, 4, 4, 4, 4, 4, 4);
        everyWay(6, 0b0000001, 0, 1, 0, 2, 3, 1);
        everyWay(6, 0b0101010, 0, 0, 1, 1, 2, 2, 0);
        everyWay(6, 0b1111111, 0, 1, 2, 3, 4, 5, 0);
        Desk.end();
    }

    /** Every way to sit, on so many cells, of those who are not out; stubs are places in CELLS. */
    private static void everyWay(int cells, int out, int... stubs) {
        byte[] far = swapsFromHome(cells, out, stubs);
        for (int way = 0; way < far.length; way++) {
            if (isWay(way, cells, out, stubs.length)) {
                UsherRows x = seated(way, out, stubs);
                Desk.due("stubs " + Arrays.toString(stubs) + ", way " + Integer.toOctalString(way), x.swaps(), far[way]);
            }
        }
    }

    /** A way is a figure of three bits a soul: its place in CELLS; of those who are out it is 0. */
    private static int place(int way, int soul) {
        return way >> 3 * soul & 7;
    }

    private static boolean isOut(int out, int soul) {
        return (out >> soul & 1) == 1;
    }

    private static boolean isWay(int way, int cells, int out, int souls) {
        int taken = 0;
        for (int i = 0; i < souls; i++) {
            int bit = 1 << place(way, i);
            if (isOut(out, i) ? bit != 1 : place(way, i) >= cells || (taken & bit) != 0) {
                return false;
            }
            taken |= isOut(out, i) ? 0 : bit;
        }
        return true;
    }

    private static boolean isHome(int way, int out, int[] stubs) {
        int had = 0;
        for (int i = 0; i < stubs.length; i++) {
            if (!isOut(out, i)) {
                boolean owns = (had >> stubs[i] & 1) == 0;
                if (owns && place(way, i) != stubs[i]) {
                    return false;
                }
                had |= 1 << stubs[i];
            }
        }
        return true;
    }

    /** As a swap made again undoes itself, ways home are as far as ways from home. */
    private static byte[] swapsFromHome(int cells, int out, int[] stubs) {
        byte[] far = new byte[1 << 3 * stubs.length];
        int[] queue = new int[far.length];
        int last = 0;
        Arrays.fill(far, UNKNOWN);
        for (int way = 0; way < far.length; way++) {
            if (isWay(way, cells, out, stubs.length) && isHome(way, out, stubs)) {
                far[way] = 0;
                queue[last++] = way;
            }
        }
        for (int first = 0; first < last; first++) {
            for (int a = 0; a < cells; a++) {
                for (int b = a + 1; b < cells; b++) {
                    int next = swapped(queue[first], a, b, out, stubs.length);
                    if (far[next] == UNKNOWN) {
                        far[next] = (byte) (far[queue[first]] + 1);
                        queue[last++] = next;
                    }
                }
            }
        }
        return far;
    }

    private static int swapped(int way, int a, int b, int out, int souls) {
        int next = 0;
        for (int i = 0; i < souls; i++) {
            int at = place(way, i);
            int then = isOut(out, i) ? 0 : at == a ? b : at == b ? a : at;
            next |= then << 3 * i;
        }
        return next;
    }

    private static UsherRows seated(int way, int out, int[] stubs) {
        UsherRows x = new UsherRows();
        for (int i = 0; i < stubs.length; i++) {
            x.soul(0, CELLS[stubs[i]]);
        }
        for (int i = 0; i < stubs.length; i++) {
            if (!isOut(out, i)) {
                x.shows(i, CELLS[place(way, i)]);
            }
        }
        return x;
    }
}
