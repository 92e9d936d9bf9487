import java.util.ArrayList;
import java.util.List;

/** Piles as texts from the bottom to the top, such as "021", with what the document says of their creases. */
final class Piles {
    private Piles() {
    }

    /** Every pile of the first sections in which no creases cross. */
    static List<String> foldings(int sections) {
        List<String> found = new ArrayList<>();
        for (String order : orders(sections)) {
            boolean crossed = false;
            for (int crease = 0; crease + 1 < sections; crease++) {
                crossed |= lowestCrossing(order, crease) >= 0;
            }
            if (!crossed) {
                found.add(order);
            }
        }
        return found;
    }

    private static List<String> orders(int sections) {
        List<String> found = new ArrayList<>();
        if (sections == 0) {
            found.add("");
            return found;
        }
        for (String order : orders(sections - 1)) {
            for (int layer = 0; layer < sections; layer++) {
                found.add(with(order, layer));
            }
        }
        return found;
    }

    /** The pile with its next section in a layer. */
    static String with(String pile, int layer) {
        return pile.substring(0, layer) + pile.length() + pile.substring(layer);
    }

    /** How many of the foldings have the sections of the pile in its order. */
    static int completions(String pile, List<String> foldings) {
        int found = 0;
        for (String folding : foldings) {
            found += folding.replaceAll("[^0" + pile + "]", "").equals(pile) || pile.isEmpty() ? 1 : 0;
        }
        return found;
    }

    /** The lowest crease that crosses a crease of the pile, or -1. */
    static int lowestCrossing(String pile, int crease) {
        int[] span = span(pile, crease);
        for (int other = 0; other + 1 < pile.length(); other++) {
            int[] next = span(pile, other);
            boolean sameSide = crease % 2 == other % 2;
            boolean above = span[0] < next[0] && next[0] < span[1] && span[1] < next[1];
            boolean below = next[0] < span[0] && span[0] < next[1] && next[1] < span[1];
            if (sameSide && (above || below)) {
                return other;
            }
        }
        return -1;
    }

    private static int[] span(String pile, int crease) {
        int from = pile.indexOf('0' + crease);
        int to = pile.indexOf('1' + crease);
        return new int[] {Math.min(from, to), Math.max(from, to)};
    }

    /** A strip of which the sections of the pile are folded to it. */
    static FoldedArchive made(int sections, String pile) {
        FoldedArchive archive = Check.strip(sections);
        for (int section = 0; section < pile.length(); section++) {
            int layer = 0;
            for (int other = 0; other < section; other++) {
                layer += pile.indexOf('0' + other) < pile.indexOf('0' + section) ? 1 : 0;
            }
            archive.fold(layer);
        }
        return archive;
    }
}
