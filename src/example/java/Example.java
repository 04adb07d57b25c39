import java.util.Arrays;

public final class Example {
    private Example() {
    }

    /** The text over the tape, as shape k (0 .. 5) or rule k - 6 (6 .. 8). */
    private static int tell(OldNeighbours x, int k, String text) {
        x.end(0);
        int[] n = new int[(text.length() + 19) / 20 * 5];
        for (int i = 0; i < text.length(); i++) {
            n[i / 4] |= (text.charAt(i) & 255) << 24 - i % 4 * 8;
        }
        for (int i = 0; i < n.length; i += 5) {
            x.feed(n[i], n[i + 1], n[i + 2], n[i + 3], n[i + 4]);
        }
        x.end(text.length());
        return x.text(k);
    }

    private static String bricks(OldNeighbours x, int w) {
        int[] row = new int[x.look(20 + w)];
        for (int i = 0; i < row.length; i++) {
            row[i] = x.at(w, i);
        }
        return Arrays.toString(row);
    }

    public static void main(String[] args) {
        OldNeighbours x = new OldNeighbours();
        System.out.println("cells of shape 0: " + tell(x, 0, "row 0 0 3; row 0 1 3;"));
        System.out.println("lines of rule 0: " + tell(x, 6, "back when year < 1; snake;"));

        x.wall(0, 0);
        x.fill(0, 4);
        System.out.println("wall 0: " + bricks(x, 0));
        System.out.println("bricks beside brick 5: " + Integer.toBinaryString(x.beside(0, 5)));

        int left = x.again(0, 1, 0, 1, 2);
        System.out.println("wall 1, shifted by 2: " + bricks(x, 1) + ", left over: " + left);
        System.out.println("without an old neighbour: " + x.good(0, 1, 1) + ", couples kept: " + x.good(0, 1, 2));

        System.out.println("good years of 2: " + x.years(0, 0, 2) + ", wall 0: " + bricks(x, 0));
        System.out.println("couples that have met: " + x.met(0) + ", always: " + x.met(2));

        int refused = tell(x, 1, "row 0 9 3;");
        System.out.println("refused: " + refused + ", fault " + x.fault(0) + " at " + x.fault(1));
    }
}
