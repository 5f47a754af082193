/**
 * "of those the most from source 0 to fill 0; of those the most from source 0 to fill 1, and so on,
 * fill by fill, source by source": roads on which many plans cost the same, and whose nearest sources
 * do not make the first of them.
 */
public final class OrderTest {
    private static final Due DUE = new Due("OrderTest");

    /**
     * A road, and its first best plan: C4@2 is a cut of 4 at metre 2 (each of a kind of its own, by
     * its number), P1@2 a pit of 1 cent at metre 2, F3@0 a fill of 3 at metre 0, and -2:1 says that
     * kind 2 does not fit fill 1. The plan has a row for each source, a digit for each fill.
     */
    private static final String[][] ROADS = {
        {"C1@1 C1@0 F1@0 F1@0", "10 01"},
        {"C5@1 C3@0 F4@0 F4@0", "41 03"},
        {"C3@1 C3@0 C3@1 F3@0 F3@0 -0:1", "30 03 00"},
        {"C3@0 C3@0 C3@0 F3@7 F3@7 F3@7 -1:1 -2:0", "300 003 030"},
        {"C3@0 C3@0 C3@0 F3@7 F3@7 F3@7 -1:1 -2:0 -0:0", "030 300 003"},
        {"C2@0 C2@1 C2@2 C2@3 F2@1 F2@2 F2@3 F2@4", "2000 0200 0020 0002"},
        {"C2@3 C2@2 C2@1 C2@0 F2@4 F2@4 F2@4 F2@4", "2000 0200 0020 0002"},
        {"C4@0 C2@1 F2@2 F1@1", "10 11"},
        {"C4@2 C4@0 F2@0 F3@0", "10 13"},
        {"C2@0 C3@1 F4@2 F1@1", "20 21"},
        {"C4@0 C4@1 F1@2 F4@2", "10 04"},
        {"C4@0 C3@1 F4@1 F2@2 F1@0", "301 120"},
        {"C3@0 C1@0 P0@2 F2@1 F1@1 F1@0 -1:2", "201 010 000"},
        {"C3@1 C3@2 C3@1 F1@2 F2@2 F3@2 -2:0 -0:1", "102 021 000"},
        {"C1@0 C4@1 C1@0 C3@0 P0@2 F3@0 F3@0", "10 10 10 03 00"},
        {"C2@2 C3@0 C2@2 C3@2 F4@2 F2@2 -3:1", "20 00 02 20"},
        {"C3@1 C1@2 C3@0 C2@1 F3@1 F1@1 F3@2 -3:0", "300 001 010 002"},
        {"C1@0 C2@0 C3@1 C2@2 F1@2 F2@2 F2@1 F2@0", "0001 0001 1020 0200"},
        {"C3@2 C4@1 C4@2 F1@2 F1@0 F4@1 F2@0 -0:3 -0:0", "0120 0022 1000"},
        {"C2@0 C3@2 P0@0 F4@2 F2@2 F2@0 F4@2", "2000 2100 0124"},
        {"C2@0 C2@1 C4@0 C2@2 F1@2 F4@0 F1@1 F2@2 -2:1 -1:0 -2:2", "0200 0200 1001 0011"},
        {"C1@2 C1@2 C1@0 C3@2 P1@1 F2@1 F2@1 F4@0 F2@2 -1:2 -0:2 -0:0", "0100 1000 0010 1002 0130"},
        {"C3@1 C2@1 C4@0 C1@2 P0@1 F4@2 F2@1 F2@2 F1@2", "3000 1100 0000 0010 0111"},
        {"C2@2 C4@2 C3@2 C1@1 P0@2 F1@0 F3@0 F4@2 F4@1 -2:2 -1:3", "1100 0220 0003 0001 0020"},
        {"C2@0 C2@0 C4@1 C1@1 P1@0 F2@2 F4@2 F3@2 F4@2 -1:3 -0:2", "2000 0200 0220 0010 0004"},
        {"C2@0 C2@0 C1@1 C3@0 P1@0 F3@1 F4@0 F2@1 F2@0", "2000 1100 0010 0300 0012"},
        {"C3@0 C4@0 C4@2 P0@0 F2@2 F4@0 F4@1 F4@2", "2100 0310 0004 0030"},
        {"C3@2 C2@0 C2@0 C3@0 F4@1 F2@0 F1@1 F2@2 -1:2", "1002 2000 1100 0110"},
        {"C3@0 C1@1 C2@1 P0@0 F4@2 F2@1 F3@1 F4@1 -2:0 -0:0 -1:1", "0210 1000 0020 3004"},
        {"C9@10 C1@0 P1000@0 F1@0 F5@0 -0:1", "10 01 04"},
    };

    public static void main(String[] args) {
        for (String[] road : ROADS) {
            HaulFlows x = make(road[0]);
            DUE.is(road[0] + ": run", Due.run(x, 96), 0);
            String[] rows = road[1].split(" ");
            for (int s = 0; s < rows.length; s++) {
                for (int f = 0; f < rows[s].length(); f++) {
                    DUE.is(road[0] + ": " + s + " to " + f, x.moved(s, f, 0), rows[s].charAt(f) - '0');
                }
            }
        }
        DUE.end();
    }

    private static HaulFlows make(String road) {
        HaulFlows x = new HaulFlows();
        int cuts = 0;
        for (String part : road.split(" ")) {
            String[] numbers = part.substring(1).split("[@:]");
            int first = Integer.parseInt(numbers[0]);
            int second = Integer.parseInt(numbers[1]);
            switch (part.charAt(0)) {
                case 'C' -> x.cut(first, cuts++, 0, second);
                case 'P' -> x.borrow(second, first);
                case 'F' -> x.fill(first, 0, second);
                default -> x.fits(first, second, false);
            }
        }
        return x;
    }
}
