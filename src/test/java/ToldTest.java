/** Promises 14, 15, 17, 18 and 21: places, borders, suffixes and unlike factors. */
public final class ToldTest {
    private static final Check CHECK = new Check("ToldTest");

    public static void main(String[] args) {
        promise14Letters();
        promise14Ranks();
        promise14RunsAndSquares();
        promise15Border();
        promise17Alike();
        promise18Suffix();
        promise21Unlike();
        CHECK.end();
    }

    private static void promise14Letters() {
        BorderRuns x = Check.of("azm");
        CHECK.due("at(0, 0)", x.at(0, 0), 0);
        CHECK.due("at(1, 0)", x.at(1, 0), 25);
        CHECK.due("at(2, 0)", x.at(2, 0), 12);
        CHECK.due("at(3, 0)", x.at(3, 0), BorderRuns.UNKNOWN);
        CHECK.due("at(-1, 0)", x.at(-1, 0), BorderRuns.UNKNOWN);
        CHECK.due("at(3, 4)", x.at(3, 4), BorderRuns.UNKNOWN);
        CHECK.due("at(2, 4)", x.at(2, 4), BorderRuns.BAD_VALUE);
        CHECK.due("at(2, -1)", x.at(2, -1), BorderRuns.BAD_VALUE);
    }

    private static void promise14Ranks() {
        BorderRuns x = Check.of("mississippi");
        int[] ranks = {4, 3, 10, 8, 2, 9, 7, 1, 6, 5, 0};
        for (int place = 0; place < ranks.length; place++) {
            CHECK.due("at(" + place + ", 1)", x.at(place, 1), ranks[place]);
        }
        BorderRuns same = Check.of("aaa");
        CHECK.due("at(0, 1) of aaa", same.at(0, 1), 2);
        CHECK.due("at(2, 1) of aaa", same.at(2, 1), 0);
    }

    private static void promise14RunsAndSquares() {
        BorderRuns x = Check.of("mississippi");
        int[] runs = {0, 1, 2, 2, 1, 2, 2, 1, 1, 1, 0};
        int[] squares = {0, 0, 0, 1, 0, 0, 2, 1, 0, 1, 0};
        for (int place = 0; place < runs.length; place++) {
            CHECK.due("at(" + place + ", 2)", x.at(place, 2), runs[place]);
            CHECK.due("at(" + place + ", 3)", x.at(place, 3), squares[place]);
        }
        BorderRuns one = Check.of("xabab");
        CHECK.due("at(0, 2) of xabab", one.at(0, 2), 0);
        CHECK.due("at(1, 2) of xabab", one.at(1, 2), 1);
        CHECK.due("at(4, 2) of xabab", one.at(4, 2), 1);
        BorderRuns same = Check.of("a".repeat(40));
        CHECK.due("at(39, 2) of 40", same.at(39, 2), 1);
        CHECK.due("at(39, 3) of 40", same.at(39, 3), 20);
    }

    private static void promise15Border() {
        BorderRuns x = Check.of("aabaabaab");
        int[] borders = {5, 2, 1};
        for (int rank = 0; rank < borders.length; rank++) {
            CHECK.due("border(8, " + rank + ")", x.border(8, rank), borders[rank]);
        }
        CHECK.due("border(8, 3)", x.border(8, 3), BorderRuns.NONE);
        CHECK.due("border(8, most)", x.border(8, Integer.MAX_VALUE), BorderRuns.NONE);
        CHECK.due("border(9, 0)", x.border(9, 0), 6);
        CHECK.due("border(9, 1)", x.border(9, 1), 3);
        CHECK.due("border(9, 2)", x.border(9, 2), BorderRuns.NONE);
        CHECK.due("border(1, 0)", x.border(1, 0), BorderRuns.NONE);
        CHECK.due("border(2, 0)", x.border(2, 0), 1);
        CHECK.due("border(3, 0)", x.border(3, 0), BorderRuns.NONE);
        CHECK.due("border(0, 0)", x.border(0, 0), BorderRuns.UNKNOWN);
        CHECK.due("border(-1, 0)", x.border(-1, 0), BorderRuns.UNKNOWN);
        CHECK.due("border(10, 0)", x.border(10, 0), BorderRuns.UNKNOWN);
        CHECK.due("border(10, -1)", x.border(10, -1), BorderRuns.UNKNOWN);
        CHECK.due("border(8, -1)", x.border(8, -1), BorderRuns.BAD_VALUE);
        CHECK.due("border(3, -1)", x.border(3, -1), BorderRuns.BAD_VALUE);
        BorderRuns same = Check.of("z".repeat(40));
        CHECK.due("border(40, 38) of 40", same.border(40, 38), 1);
        CHECK.due("border(40, 39) of 40", same.border(40, 39), BorderRuns.NONE);
    }

    private static void promise17Alike() {
        BorderRuns x = Check.of("abcabcabx");
        CHECK.due("alike(0, 3)", x.alike(0, 3), 5);
        CHECK.due("alike(3, 0)", x.alike(3, 0), 5);
        CHECK.due("alike(0, 6)", x.alike(0, 6), 2);
        CHECK.due("alike(0, 1)", x.alike(0, 1), 0);
        CHECK.due("alike(0, 0)", x.alike(0, 0), 9);
        CHECK.due("alike(8, 8)", x.alike(8, 8), 1);
        CHECK.due("alike(0, 9)", x.alike(0, 9), BorderRuns.UNKNOWN);
        CHECK.due("alike(9, 0)", x.alike(9, 0), BorderRuns.UNKNOWN);
        CHECK.due("alike(-1, 0)", x.alike(-1, 0), BorderRuns.UNKNOWN);
        CHECK.due("alike(0, -1)", x.alike(0, -1), BorderRuns.UNKNOWN);
        CHECK.due("alike(2, 0) of aaa", Check.of("aaa").alike(2, 0), 1);
        CHECK.due("alike(0, 0) of none", new BorderRuns().alike(0, 0), BorderRuns.UNKNOWN);
    }

    private static void promise18Suffix() {
        BorderRuns x = Check.of("mississippi");
        int[] places = {10, 7, 4, 1, 0, 9, 8, 6, 3, 5, 2};
        for (int rank = 0; rank < places.length; rank++) {
            CHECK.due("suffix(" + rank + ")", x.suffix(rank), places[rank]);
        }
        CHECK.due("suffix(11)", x.suffix(11), BorderRuns.NONE);
        CHECK.due("suffix(most)", x.suffix(Integer.MAX_VALUE), BorderRuns.NONE);
        CHECK.due("suffix(-1)", x.suffix(-1), BorderRuns.BAD_VALUE);
        CHECK.due("suffix(0) of aa", Check.of("aa").suffix(0), 1);
        CHECK.due("suffix(0) of none", new BorderRuns().suffix(0), BorderRuns.NONE);
        CHECK.due("suffix(-1) of none", new BorderRuns().suffix(-1), BorderRuns.BAD_VALUE);
    }

    private static void promise21Unlike() {
        BorderRuns x = Check.of("mississippi");
        CHECK.due("unlike(0)", x.unlike(0), 0);
        CHECK.due("unlike(1)", x.unlike(1), 1);
        CHECK.due("unlike(3)", x.unlike(3), 6);
        CHECK.due("unlike(4)", x.unlike(4), 9);
        CHECK.due("unlike(11)", x.unlike(11), 53);
        CHECK.due("unlike(12)", x.unlike(12), BorderRuns.UNKNOWN);
        CHECK.due("unlike(-1)", x.unlike(-1), BorderRuns.UNKNOWN);
        CHECK.due("unlike(0) of none", new BorderRuns().unlike(0), 0);
        CHECK.due("unlike(40)", Check.of("a".repeat(40)).unlike(40), 40);
    }
}
