import java.util.ArrayList;
import java.util.List;

/** The promise 65 at its edges: each part of the list, empty and full, and the bits of a double. */
public final class DigestEdgesTest {
    private DigestEdgesTest() {
    }

    public static void main(String[] args) {
        writtenOut();
        writtenOutWithARay();
        writtenOutWhenOptimal();
        eachSize();
        savedStates();
        buffers();
        rayOrNext();
        forty();
        bitsOfFractions();
        bitsOfGreatAndSmall();
        eachPartCounts();
        digestTwice();
        Check.end("DigestEdgesTest");
    }

    private static void expect(SimplexDesk desk, String what, long... numbers) {
        List<Long> list = new ArrayList<>();
        for (long number : numbers) {
            list.add(number);
        }
        Check.same("digest of " + what, desk.digest(), Digests.hash(list));
    }

    // "The values are: .." in this order; neither optimal nor a ray, so nextColumn and nextRow are told.
    private static void writtenOut() {
        Check.begin("digest, written out");
        SimplexDesk desk = Check.desk("v2;m3,2;c1,1<4;c1,3<6");
        desk.pivot(1, 1);
        desk.append('v');
        expect(desk, "a basis on the way", 2, 2, 0, 0, 0, 1, 1, 0, 4, 1, 4, 1, 4, 4, 12, 1, 2, 2,
                3, 2,
                1, 1, 4, 0, 1, 0, 1, 2, 99,
                1, 3, 6, 2, 3, 2, 3, 0, 12,
                0, 7, 3, 0, 1, 1, 0, 1, 2, 1, 1, 0, 1, 2, 1, 0, -2, 3, 0, 1,
                2, 2, 3, 0, 1, 1, 1, -1, 3,
                1, 1, 3, 1, 1, 0, 1, 1, 3,
                0, 0,
                Double.doubleToLongBits(4.0), 1, 'v');
    }

    // "if hasRay is true, rayColumn"
    private static void writtenOutWithARay() {
        Check.begin("digest with a ray, written out");
        SimplexDesk desk = Check.desk("v2;m1,1;c-3,2<3");
        desk.pivot(0, 1);
        expect(desk, "a ray", 2, 1, 0, 0, 1, 1, 1, 0, 3, 2, 3, 2, 2, 2, 3, 2, 0, 2,
                1, 1,
                -3, 2, 3, 1, 2, 1, 2, 0, 99,
                0, 5, 2, 0, 1, 1, 0, 1, 3, 2, 0, -1, 2, 0, 1,
                1, -3, 2, 1, 1, 1, 2,
                0,
                Double.doubleToLongBits(1.5), 0);
    }

    // Optimal: neither rayColumn nor nextColumn and nextRow are told.
    private static void writtenOutWhenOptimal() {
        Check.begin("digest when optimal, written out");
        SimplexDesk desk = Check.desk("v1;m1;c3<4", 2);
        desk.solve();
        expect(desk, "an optimal basis", 1, 1, 2, 1, 0, 1, 1, 0, 4, 3, 4, 3, 2, 2, 4, 3, 0, 3,
                1,
                3, 4, 1, 3, 1, 3, 0, 99,
                1, 0, 1, 4, 3, 0, -1, 3, 0, 1,
                0, 1, 1, 1, 3,
                Double.doubleToLongBits(4.0 / 3.0), 0);
    }

    private static void eachSize() {
        Check.begin("digest of each size");
        for (int size = 0; size < 20; size++) {
            Digests.expect(Twins.sized(1 + size % 4, size / 4), "");
            SimplexDesk optimal = Twins.sized(1 + size % 4, size / 4);
            optimal.setProfit(0, -1);
            Digests.expect(optimal, "");
        }
        Digests.expect(Twins.full(), Twins.FULL);
        SimplexDesk full = Twins.full();
        full.solve();
        Digests.expect(full, Twins.FULL);
    }

    private static void savedStates() {
        Check.begin("digest with each number of saved states");
        for (int states = 0; states <= 6; states++) {
            Digests.expect(Twins.prepared(states), "v2;m3,2;c1,1<4;c1,3<6");
        }
        SimplexDesk desk = new SimplexDesk();
        for (int made = 0; made < 8; made++) {
            desk.begin();
            Digests.expect(desk, "");
        }
    }

    // "the length of the buffer and each of its character codes"
    private static void buffers() {
        Check.begin("digest with each length of the buffer");
        StringBuilder text = new StringBuilder();
        for (int length = 1; length <= 60; length++) {
            int code = length % 2 == 0 ? 126 - length / 2 : 32 + length;
            text.append((char) code);
            SimplexDesk entered = new SimplexDesk();
            Check.enter(entered, text.toString());
            Digests.expect(entered, text.toString());
        }
        SimplexDesk desk = new SimplexDesk();
        desk.append('v');
        desk.clearBuffer();
        desk.append(126);
        Digests.expect(desk, "~");
    }

    private static void rayOrNext() {
        Check.begin("digest with each column of a ray, each next column");
        for (int column = 0; column < 4; column++) {
            SimplexDesk desk = Check.desk("v4;m0,0,0,0;c1,1,1,1<5;c1,1,1,1<4");
            desk.setProfit(column, 3);
            Digests.expect(desk, "");
            desk.setCoefficient(0, column, 0);
            desk.setCoefficient(1, column, 0);
            Digests.expect(desk, "");
        }
        SimplexDesk slack = Check.desk("v2;m2,1;c2,-3<4;c2,-1<8");
        slack.pivot(0, 0);
        slack.pivot(1, 1);
        Digests.expect(slack, "");
        for (int rule = 0; rule <= 2; rule++) {
            SimplexDesk desk = Check.desk("v3;m1,3,2;c1,9,1<9", rule);
            Digests.expect(desk, "");
        }
    }

    private static void forty() {
        Check.begin("digest in a cycle");
        for (int rule = 0; rule <= 2; rule++) {
            Digests.expect(Twins.cycle(rule), "");
            SimplexDesk desk = Twins.cycle(rule);
            desk.solve();
            Digests.expect(desk, "");
        }
    }

    // "the bits of value (as Double.doubleToLongBits)"
    private static void bitsOfFractions() {
        Check.begin("the bits of fractions");
        for (int profit = 1; profit <= 9; profit++) {
            for (int factor = 1; factor <= 9; factor++) {
                for (int bound = 0; bound <= 99; bound += 1 + bound / 9) {
                    SimplexDesk desk = Check.desk("v1;m" + profit + ";c" + factor + "<" + bound);
                    desk.step();
                    Digests.expect(desk, "");
                }
            }
        }
    }

    // The greatest value that there is, 9 * 99 * 820, and the smallest one above 0, 1 / 6561.
    private static void bitsOfGreatAndSmall() {
        Check.begin("the bits of great and small numbers");
        SimplexDesk great = Twins.sized(4, 4);
        SimplexDesk small = Twins.sized(4, 4);
        for (int row = 0; row < 4; row++) {
            great.setBound(row, 99);
            small.setBound(row, row == 3 ? 1 : 0);
            great.setCoefficient(row, row, 1);
            small.setCoefficient(row, row, 9);
            if (row < 3) {
                great.setCoefficient(row, row + 1, -9);
                small.setCoefficient(row, row + 1, -1);
            }
        }
        great.setProfit(0, 9);
        Check.same("solve", great.solve(), 4);
        Check.fraction("value", great.valueNumerator(), great.valueDenominator(), "730620/1");
        Digests.expect(great, "");
        Check.same("solve", small.solve(), 4);
        Check.fraction("value", small.valueNumerator(), small.valueDenominator(), "1/6561");
        Check.same("value", small.value() == 1.0 / 6561.0, true);
        Digests.expect(small, "");
    }

    // Each part of the state is in the hash.
    private static void eachPartCounts() {
        Check.begin("parts of the digest");
        long before = Twins.prepared(5).digest();
        Twins.Use[] uses = {d -> d.setVariables(4), d -> d.setProfit(0, 6), d -> d.addConstraint(0),
            d -> d.setCoefficient(0, 0, 3), d -> d.setBound(2, 9), d -> d.dropConstraint(2), SimplexDesk::step,
            d -> d.setRule(0), d -> d.append('~'), SimplexDesk::clearBuffer, SimplexDesk::load, SimplexDesk::write,
            SimplexDesk::undo, SimplexDesk::begin, SimplexDesk::restore};
        for (int index = 0; index < uses.length; index++) {
            SimplexDesk desk = Twins.prepared(5);
            uses[index].on(desk);
            Check.same("the digest differs after the change " + index, desk.digest() != before, true);
        }
        // The snapshot is in none of the answers, so it is not in the hash.
        SimplexDesk kept = Twins.prepared(5);
        kept.keep();
        Check.same("digest after keep", kept.digest(), before);
    }

    private static void digestTwice() {
        Check.begin("digest again");
        Twins.Maker[] makers = {SimplexDesk::new, () -> Twins.prepared(6), Twins::full, Twins::ray, Twins::optimal,
            () -> Twins.cycle(1)};
        for (Twins.Maker maker : makers) {
            SimplexDesk desk = maker.make();
            long first = desk.digest();
            Check.same("digest again", desk.digest(), first);
            Check.same("digest of another desk alike", maker.make().digest(), first);
            Twins.alike("digest", desk, maker.make());
        }
    }
}
