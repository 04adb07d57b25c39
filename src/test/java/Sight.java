/** All that can be asked of an object without changing it, as one text. */
final class Sight {
    private Sight() {
    }

    static String of(OldNeighbours x) {
        StringBuilder sight = new StringBuilder();
        for (int what = 0; what < 36; what++) {
            sight.append(x.look(what)).append(' ');
        }
        for (int k = 0; k < 6; k++) {
            for (int i = 0; i < 24; i++) {
                sight.append(x.at(k, i)).append(' ').append(x.cell(k, i, 0)).append(' ').append(x.cell(k, i, 1)).append(' ');
                sight.append(x.beside(k, i)).append(' ');
            }
        }
        for (int what = 0; what < 6; what++) {
            sight.append(x.met(what)).append(' ');
        }
        for (int i = 0; i < 60; i++) {
            for (int what = 0; what < 4; what++) {
                sight.append(x.history(i, what)).append(' ');
            }
        }
        for (int a = 0; a < 24; a++) {
            sight.append(x.red(a, 0)).append(' ').append(x.red(a, 1)).append(' ');
            for (int b = a + 1; b < 24; b++) {
                sight.append(x.two(a, b, 0)).append(' ').append(x.two(a, b, 1)).append(' ');
            }
        }
        sight.append(x.fault(0)).append(' ').append(x.fault(1)).append(' ').append(tapeOf(x));
        return sight.toString();
    }

    /** The first true one, from above, cuts nothing off. */
    private static int tapeOf(OldNeighbours x) {
        int length = 400;
        while (length >= 0 && !x.end(length)) {
            length--;
        }
        return length;
    }
}
