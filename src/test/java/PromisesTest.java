/** Each promise by hand, with ordinary inputs; the edges stand in TermsTest, CallsTest and RefusedTest. */
public final class PromisesTest {
    private static final Check check = new Check();

    public static void main(String[] args) {
        newObject();
        putAndGet();
        transform();
        keepAndTimes();
        root();
        productOfTwoRows();
        refusalsInTheirOrder();
        check.end();
    }

    private static Subject with(long... numbers) {
        Subject x = new Subject();
        for (int k = 0; k < numbers.length; k++) {
            check.due("put(" + k + ", " + numbers[k] + ")", x.put(k, numbers[k]), true);
        }
        return x;
    }

    private static void newObject() {
        check.row("new", new Subject(), new long[500]);
    }

    private static void putAndGet() {
        Subject x = with(1, 2, 3);
        check.row("puts", x, 1, 2, 3, 0);
        check.due("put(1, -9)", x.put(1, -9), true);
        check.row("put(1, -9)", x, 1, -9, 3, 0);
        check.due("put(1, 0)", x.put(1, 0), true);
        check.row("put(1, 0)", x, 1, 0, 3, 0);
    }

    private static void transform() {
        Subject x = with(1, 2, 3, 4, 5);
        check.due("transform(4, 17, false)", x.transform(4, 17, false), 0);
        check.row("transform(4, 17, false)", x, 10, 6, 15, 7, 5, 0);
        check.due("transform(4, 17, true)", x.transform(4, 17, true), 0);
        check.row("transform(4, 17, true)", x, 1, 2, 3, 4, 5, 0);
        check.due("back before there", x.transform(4, 17, true), 0);
        // 10, 7, 15, 6 times 13, the inverse of 4.
        check.row("back before there", x, 11, 6, 8, 10, 5, 0);
        check.due("there after back", x.transform(4, 17, false), 0);
        check.row("there after back", x, 1, 2, 3, 4, 5, 0);
    }

    private static void keepAndTimes() {
        Subject x = with(2, 3, 4);
        check.due("keep(2)", x.keep(2), true);
        check.row("keep(2)", x, 2, 3, 4, 0);
        x.put(0, 10);
        check.due("times(3, 101)", x.times(3, 101), 0);
        check.row("keep(2), times(3, 101)", x, 20, 9, 0, 0);
        check.due("keep(1)", x.keep(1), true);
        check.due("times(2, 101)", x.times(2, 101), 0);
        check.row("keep(1) in place of keep(2)", x, 97, 0, 0);
    }

    private static void root() {
        Subject x = with(3, 4, 5);
        check.due("root(4, 17)", x.root(4, 17), 13);
        check.due("root(8, 41)", x.root(8, 41), 38);
        check.due("root(1024, 998244353)", x.root(1024, 998244353), 258648936);
        check.row("roots", x, 3, 4, 5, 0);
    }

    private static void productOfTwoRows() {
        Subject x = with(3, 5);
        x.transform(4, 257, false);
        x.keep(4);
        x.transform(4, 257, true);
        check.row("there and back", x, 3, 5, 0, 0);
        x.put(0, 2);
        x.put(1, 7);
        x.transform(4, 257, false);
        x.times(4, 257);
        x.transform(4, 257, true);
        // 3 + 5x times 2 + 7x.
        check.row("product", x, 6, 31, 35, 0, 0);
    }

    /** Where several hold, the document does not say which comes first: taken is the order in which it has them. */
    private static void refusalsInTheirOrder() {
        Subject x = new Subject();
        for (boolean back : new boolean[] {false, true}) {
            check.due("transform(3, 8, " + back + ")", x.transform(3, 8, back), -1);
            check.due("transform(0, 0, " + back + ")", x.transform(0, 0, back), -1);
            check.due("transform(3, 17, " + back + ")", x.transform(3, 17, back), -1);
            check.due("transform(4, 15, " + back + ")", x.transform(4, 15, back), -2);
            check.due("transform(4, 2, " + back + ")", x.transform(4, 2, back), -2);
        }
        check.due("times(-1, 8)", x.times(-1, 8), -1);
        check.due("times(1025, 0)", x.times(1025, 0), -1);
        check.due("times(0, 8)", x.times(0, 8), -2);
    }
}
