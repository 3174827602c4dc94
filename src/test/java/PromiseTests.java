/** For each promise of the document, by its number: ordinary inputs, edges and wrong inputs. */
public final class PromiseTests {
    private static final int NONE = -1;
    private static final int IDENTITY = 342391;
    private static final int[] NO_NUMBERS = {-1, Integer.MIN_VALUE, Integer.MAX_VALUE, 1000000};

    private static int wrong = 0;
    private static int checked = 0;

    public static void main(String[] args) {
        newObject();
        adding();
        addingUnbuilds();
        clearing();
        buildingEdges();
        buildingAgain();
        elementsOfS3();
        tableOfS4();
        tableOfThreeCycle();
        tableOfQuaternions();
        tableOfS5();
        theSamePrimeTwoRoots();
        fourExchanges();
        wrongNumbers();
        System.out.println(checked + " answers checked by promise, " + wrong + " wrong");
        if (wrong != 0) {
            System.exit(1);
        }
    }

    private static void due(int promise, String what, long got, long want) {
        checked++;
        if (got != want) {
            wrong++;
            System.out.println("promise " + promise + ": " + what + " answered " + got + ", due is " + want);
        }
    }

    private static void due(int promise, String what, boolean got, boolean want) {
        due(promise, what, got ? 1 : 0, want ? 1 : 0);
    }

    /** The code of a permutation from its images, written as eight digits. */
    private static int images(String digits) {
        return Integer.parseInt(digits, 8);
    }

    private static ClassCharacters with(String... generators) {
        ClassCharacters x = new ClassCharacters();
        for (String digits : generators) {
            due(2, "add(" + digits + ")", x.add(images(digits)), true);
        }
        return x;
    }

    private static ClassCharacters built(String... generators) {
        ClassCharacters x = with(generators);
        due(4, "build()", x.build(), ClassCharacters.FINE);
        return x;
    }

    private static void nothingShown(int promise, String when, ClassCharacters x) {
        due(promise, when + ": order()", x.order(), 0);
        due(promise, when + ": element(0)", x.element(0), NONE);
        due(promise, when + ": classOf(identity)", x.classOf(IDENTITY), NONE);
        due(promise, when + ": classes()", x.classes(), 0);
        due(promise, when + ": size(0)", x.size(0), 0);
        due(promise, when + ": least(0)", x.least(0), NONE);
        due(promise, when + ": power(0, 0)", x.power(0, 0), NONE);
        due(promise, when + ": constant(0, 0, 0)", x.constant(0, 0, 0), NONE);
        due(promise, when + ": exponent()", x.exponent(), 0);
        due(promise, when + ": prime()", x.prime(), 0);
        due(promise, when + ": root()", x.root(), 0);
        due(promise, when + ": degree(0)", x.degree(0), 0);
        due(promise, when + ": value(0, 0)", x.value(0, 0), NONE);
        due(promise, when + ": multiplicity(0, 0, 0)", x.multiplicity(0, 0, 0), NONE);
        due(promise, when + ": indicator(0)", x.indicator(0), 0);
        due(promise, when + ": kernel(0)", x.kernel(0), 0);
        due(promise, when + ": normals()", x.normals(), 0);
    }

    private static void newObject() {
        ClassCharacters x = new ClassCharacters();
        nothingShown(1, "new", x);
        due(4, "build() without generators", x.build(), ClassCharacters.FINE);
        due(5, "order()", x.order(), 1);
        due(6, "element(0)", x.element(0), IDENTITY);
        due(6, "element(1)", x.element(1), NONE);
        due(7, "classOf", x.classOf(IDENTITY), 0);
        due(8, "classes()", x.classes(), 1);
        due(9, "size(0)", x.size(0), 1);
        due(10, "least(0)", x.least(0), IDENTITY);
        due(11, "power(0, 1000)", x.power(0, 1000), 0);
        due(12, "constant(0, 0, 0)", x.constant(0, 0, 0), 1);
        due(13, "exponent()", x.exponent(), 1);
        due(14, "prime()", x.prime(), 3);
        due(15, "root()", x.root(), 1);
        due(16, "degree(0)", x.degree(0), 1);
        due(17, "value(0, 0)", x.value(0, 0), 1);
        due(18, "multiplicity(0, 0, 0)", x.multiplicity(0, 0, 0), 1);
        due(18, "multiplicity(0, 0, 1)", x.multiplicity(0, 0, 1), NONE);
        due(19, "indicator(0)", x.indicator(0), 1);
        due(20, "kernel(0)", x.kernel(0), 1);
        due(21, "normals()", x.normals(), 1);
        nothingShown(1, "another new", new ClassCharacters());
    }

    private static void adding() {
        ClassCharacters x = new ClassCharacters();
        int[] refused = {0, -1, IDENTITY - 1, IDENTITY + 1, 16777215, 16777216, IDENTITY + 16777216,
            IDENTITY | Integer.MIN_VALUE, -IDENTITY, Integer.MIN_VALUE, Integer.MAX_VALUE,
            images("00234567"), images("76543211"), images("12345677")};
        for (int code : refused) {
            due(2, "add(" + code + ")", x.add(code), false);
        }
        due(2, "add(least)", x.add(IDENTITY), true);
        due(2, "add(greatest)", x.add(images("76543210")), true);
        due(2, "add again", x.add(images("76543210")), true);
        due(2, "the fourth", x.add(images("10234567")), true);
        due(2, "the fifth", x.add(images("10234567")), false);
        due(2, "the fifth, wrong", x.add(0), false);
        due(4, "build()", x.build(), ClassCharacters.FINE);
        due(2, "the fifth did not count", x.order(), 8);
        x.clear();
        for (int k = 0; k < 4; k++) {
            due(2, "the same one", x.add(images("10234567")), true);
        }
        due(2, "a fifth beside one four times", x.add(images("01324567")), false);
        due(4, "build()", x.build(), ClassCharacters.FINE);
        due(2, "one four times", x.order(), 2);
    }

    private static void addingUnbuilds() {
        ClassCharacters x = built("10234567");
        due(2, "add of a wrong code", x.add(7), false);
        due(2, "order() after a wrong code", x.order(), 2);
        due(2, "add of an element", x.add(images("10234567")), true);
        nothingShown(2, "after add", x);
        due(4, "build()", x.build(), ClassCharacters.FINE);
        due(2, "order() built again", x.order(), 2);
        due(2, "add", x.add(IDENTITY), true);
        due(2, "add", x.add(IDENTITY), true);
        due(4, "build()", x.build(), ClassCharacters.FINE);
        due(2, "a fifth", x.add(images("01234576")), false);
        due(2, "order() after a fifth", x.order(), 2);
    }

    private static void clearing() {
        ClassCharacters x = new ClassCharacters();
        x.clear();
        nothingShown(3, "new and cleared", x);
        due(4, "build()", x.build(), ClassCharacters.FINE);
        x.clear();
        nothingShown(3, "cleared without generators", x);
        due(2, "add", x.add(images("10234567")), true);
        due(4, "build()", x.build(), ClassCharacters.FINE);
        x.clear();
        nothingShown(3, "cleared", x);
        due(4, "build()", x.build(), ClassCharacters.FINE);
        due(3, "order() of no generators", x.order(), 1);
        x.clear();
        for (int k = 0; k < 4; k++) {
            due(3, "add after clear", x.add(images("12034567")), true);
        }
        due(4, "build()", x.build(), ClassCharacters.FINE);
        due(3, "order()", x.order(), 3);
    }

    private static void fails(int outcome, String... generators) {
        ClassCharacters x = with(generators);
        due(4, "build()", x.build(), outcome);
        nothingShown(4, "failed", x);
        due(4, "build() again", x.build(), outcome);
        nothingShown(4, "failed again", x);
    }

    private static void buildingEdges() {
        int large = ClassCharacters.TOO_LARGE;
        int many = ClassCharacters.TOO_MANY;
        fails(large, "12345670", "10234567");
        fails(large, "12345067", "10234567");
        // 168 elements but only 6 classes
        fails(large, "12345607", "02145637");
        // 128 elements, which also have more than 16 classes
        fails(large, "10234567", "23014567", "45670123");
        // 144 elements: two of 12, with 16 classes
        fails(large, "12034567", "10324567", "01235647", "01235476");
        // 18 elements, each a class
        fails(many, "12034567", "01245367", "01234576");
        // 32 elements in 17 classes: one class too many
        fails(many, "01324576", "32017645", "54760123", "01325467");
        due(8, "16 classes", built("10234567", "01324567", "01235467", "01234576").classes(), 16);
        due(8, "16 classes", built("12305674", "01235674").classes(), 16);
        due(5, "120 elements", built("12340567", "10234567").order(), 120);
        due(5, "120 elements", built("12340567", "02413567", "01234675", "01234657").order(), 120);
        due(5, "120 elements", built("12340567", "12034576").order(), 120);
    }

    private static void buildingAgain() {
        ClassCharacters x = with("12345670", "10234567");
        due(4, "build()", x.build(), ClassCharacters.TOO_LARGE);
        due(4, "generators stay after a failed build", x.build(), ClassCharacters.TOO_LARGE);
        due(2, "add", x.add(IDENTITY), true);
        due(4, "build()", x.build(), ClassCharacters.TOO_LARGE);
        x.clear();
        due(2, "add", x.add(images("12345670")), true);
        due(4, "build()", x.build(), ClassCharacters.FINE);
        due(5, "order()", x.order(), 8);
        due(4, "build() again", x.build(), ClassCharacters.FINE);
        due(5, "order()", x.order(), 8);
        due(14, "prime()", x.prime(), 17);
        due(2, "add", x.add(images("10234567")), true);
        due(4, "build()", x.build(), ClassCharacters.TOO_LARGE);
        nothingShown(4, "failed after a fine build", x);
    }

    private static void elementsOfS3() {
        ClassCharacters x = built("12034567", "10234567");
        String[] elements = {"01234567", "02134567", "10234567", "12034567", "20134567", "21034567"};
        int[] classes = {0, 1, 1, 2, 2, 1};
        due(5, "order()", x.order(), 6);
        for (int k = 0; k < 6; k++) {
            due(6, "element(" + k + ")", x.element(k), images(elements[k]));
            due(7, "classOf(" + elements[k] + ")", x.classOf(images(elements[k])), classes[k]);
        }
        due(6, "element(6)", x.element(6), NONE);
        due(7, "classOf outside", x.classOf(images("01243567")), NONE);
        due(7, "classOf no code", x.classOf(IDENTITY + 1), NONE);
        due(7, "classOf behind the codes", x.classOf(IDENTITY + 16777216), NONE);
        due(12, "constant(1, 1, 2)", x.constant(1, 1, 2), 3);
        due(12, "constant(1, 1, 0)", x.constant(1, 1, 0), 3);
        due(12, "constant(2, 2, 0)", x.constant(2, 2, 0), 2);
        due(12, "constant(2, 2, 1)", x.constant(2, 2, 1), 0);
        due(12, "constant(1, 2, 1)", x.constant(1, 2, 1), 2);
        due(12, "constant(2, 1, 1)", x.constant(2, 1, 1), 2);
    }

    private static void rowsDue(ClassCharacters x, int[][] table, int[] indicators, int[] kernels) {
        due(8, "classes()", x.classes(), table.length);
        for (int r = 0; r < table.length; r++) {
            due(16, "degree(" + r + ")", x.degree(r), table[r][0]);
            for (int c = 0; c < table.length; c++) {
                due(17, "value(" + r + ", " + c + ")", x.value(r, c), table[r][c]);
            }
            due(19, "indicator(" + r + ")", x.indicator(r), indicators[r]);
            due(20, "kernel(" + r + ")", x.kernel(r), kernels[r]);
        }
    }

    /** Classes: identity, exchanges, turns of three, pairs of exchanges, turns of four. */
    private static void tableOfS4() {
        ClassCharacters x = built("12304567", "10234567");
        int[] sizes = {1, 6, 8, 3, 6};
        String[] leasts = {"01234567", "01324567", "02314567", "10324567", "12304567"};
        int[] squares = {0, 0, 2, 0, 3};
        int[] cubes = {0, 1, 0, 3, 4};
        for (int c = 0; c < 5; c++) {
            due(9, "size(" + c + ")", x.size(c), sizes[c]);
            due(10, "least(" + c + ")", x.least(c), images(leasts[c]));
            due(11, "power(" + c + ", 0)", x.power(c, 0), 0);
            due(11, "power(" + c + ", 1)", x.power(c, 1), c);
            due(11, "power(" + c + ", 2)", x.power(c, 2), squares[c]);
            due(11, "power(" + c + ", 3)", x.power(c, 3), cubes[c]);
            due(11, "power(" + c + ", 12)", x.power(c, 12), 0);
            due(11, "power(" + c + ", 998)", x.power(c, 998), squares[c]);
            due(11, "power(" + c + ", 1001)", x.power(c, 1001), NONE);
            due(11, "power(" + c + ", -1)", x.power(c, -1), NONE);
        }
        due(11, "power(2, 1000)", x.power(2, 1000), 2);
        due(11, "power(4, 1000)", x.power(4, 1000), 0);
        due(13, "exponent()", x.exponent(), 12);
        due(14, "prime()", x.prime(), 13);
        due(15, "root()", x.root(), 2);
        rowsDue(x,
            new int[][] {{1, 1, 1, 1, 1}, {1, 12, 1, 1, 12}, {2, 0, 12, 2, 0}, {3, 1, 0, 12, 12}, {3, 12, 0, 12, 1}},
            new int[] {1, 1, 1, 1, 1},
            new int[] {31, 13, 9, 1, 1});
        due(21, "normals()", x.normals(), 4);
        // a turn of four in row 3: the roots i, -1, -i
        int[] roots = {0, 0, 0, 1, 0, 0, 1, 0, 0, 1, 0, 0};
        for (int k = 0; k < 12; k++) {
            due(18, "multiplicity(3, 4, " + k + ")", x.multiplicity(3, 4, k), roots[k]);
            due(18, "multiplicity(3, 0, " + k + ")", x.multiplicity(3, 0, k), k == 0 ? 3 : 0);
        }
        due(18, "multiplicity(3, 4, 12)", x.multiplicity(3, 4, 12), NONE);
        due(18, "multiplicity(3, 4, -1)", x.multiplicity(3, 4, -1), NONE);
        due(12, "constant(1, 1, 2)", x.constant(1, 1, 2), 3);
        due(12, "constant(1, 1, 3)", x.constant(1, 1, 3), 2);
        due(12, "constant(1, 2, 4)", x.constant(1, 2, 4), 4);
    }

    private static void tableOfThreeCycle() {
        ClassCharacters x = built("12034567");
        due(13, "exponent()", x.exponent(), 3);
        due(14, "prime()", x.prime(), 7);
        due(15, "root()", x.root(), 2);
        rowsDue(x, new int[][] {{1, 1, 1}, {1, 2, 4}, {1, 4, 2}}, new int[] {1, 0, 0}, new int[] {7, 1, 1});
        due(21, "normals()", x.normals(), 2);
        for (int k = 0; k < 3; k++) {
            due(18, "multiplicity(1, 1, " + k + ")", x.multiplicity(1, 1, k), k == 1 ? 1 : 0);
            due(18, "multiplicity(1, 2, " + k + ")", x.multiplicity(1, 2, k), k == 2 ? 1 : 0);
            due(18, "multiplicity(2, 1, " + k + ")", x.multiplicity(2, 1, k), k == 2 ? 1 : 0);
        }
    }

    /** The last row is the one kind with the indicator -1. */
    private static void tableOfQuaternions() {
        ClassCharacters x = new ClassCharacters();
        due(2, "add", x.add(2722748), true);
        due(2, "add", x.add(10441795), true);
        due(4, "build()", x.build(), ClassCharacters.FINE);
        due(13, "exponent()", x.exponent(), 4);
        due(14, "prime()", x.prime(), 13);
        due(15, "root()", x.root(), 5);
        rowsDue(x,
            new int[][] {{1, 1, 1, 1, 1}, {1, 1, 1, 12, 12}, {1, 12, 1, 1, 12}, {1, 12, 1, 12, 1}, {2, 0, 11, 0, 0}},
            new int[] {1, 1, 1, 1, -1},
            new int[] {31, 7, 13, 21, 1});
        due(21, "normals()", x.normals(), 6);
        due(18, "multiplicity(4, 1, 1)", x.multiplicity(4, 1, 1), 1);
        due(18, "multiplicity(4, 1, 3)", x.multiplicity(4, 1, 3), 1);
        due(18, "multiplicity(4, 2, 2)", x.multiplicity(4, 2, 2), 2);
    }

    private static void tableOfS5() {
        ClassCharacters x = built("12340567", "10234567");
        due(13, "exponent()", x.exponent(), 60);
        due(14, "prime()", x.prime(), 61);
        due(15, "root()", x.root(), 2);
        int[] degrees = {1, 1, 4, 4, 5, 5, 6};
        int[] exchanged = {1, 60, 2, 59, 1, 60, 0};
        for (int r = 0; r < 7; r++) {
            due(16, "degree(" + r + ")", x.degree(r), degrees[r]);
            due(17, "value(" + r + ", 1)", x.value(r, 1), exchanged[r]);
            due(19, "indicator(" + r + ")", x.indicator(r), 1);
        }
        due(16, "degree(7)", x.degree(7), 0);
        due(21, "normals()", x.normals(), 3);
        due(18, "multiplicity(6, 1, 30)", x.multiplicity(6, 1, 30), 3);
        due(18, "multiplicity(6, 1, 59)", x.multiplicity(6, 1, 59), 0);
        due(18, "multiplicity(6, 1, 60)", x.multiplicity(6, 1, 60), NONE);
    }

    /** Groups of 21 and 42 elements share a prime; the exponents and so the roots differ. */
    private static void theSamePrimeTwoRoots() {
        ClassCharacters x = built("12345607", "02461357");
        due(5, "order()", x.order(), 21);
        due(13, "exponent()", x.exponent(), 21);
        due(14, "prime()", x.prime(), 43);
        due(15, "root()", x.root(), 9);
        due(2, "add", x.add(images("06543217")), true);
        due(4, "build()", x.build(), ClassCharacters.FINE);
        due(5, "order()", x.order(), 42);
        due(13, "exponent()", x.exponent(), 42);
        due(14, "prime()", x.prime(), 43);
        due(15, "root()", x.root(), 3);
    }

    private static void fourExchanges() {
        ClassCharacters x = built("10234567", "01324567", "01235467", "01234576");
        due(5, "order()", x.order(), 16);
        due(14, "prime()", x.prime(), 11);
        due(15, "root()", x.root(), 10);
        due(20, "kernel(0)", x.kernel(0), 65535);
        for (int r = 1; r < 16; r++) {
            due(16, "degree(" + r + ")", x.degree(r), 1);
            due(20, "classes in kernel(" + r + ")", Integer.bitCount(x.kernel(r)), 8);
        }
        due(21, "normals()", x.normals(), 67);
    }

    private static void wrongNumbers() {
        ClassCharacters x = built("12034567", "10234567");
        for (int k : NO_NUMBERS) {
            wrongNumber(x, k);
        }
        wrongNumber(x, 3);
        due(6, "element(-1)", x.element(-1), NONE);
        due(6, "element(min)", x.element(Integer.MIN_VALUE), NONE);
        due(6, "element(max)", x.element(Integer.MAX_VALUE), NONE);
        due(7, "classOf(min)", x.classOf(Integer.MIN_VALUE), NONE);
        due(7, "classOf(max)", x.classOf(Integer.MAX_VALUE), NONE);
        due(11, "power(0, min)", x.power(0, Integer.MIN_VALUE), NONE);
        due(11, "power(0, max)", x.power(0, Integer.MAX_VALUE), NONE);
        due(18, "multiplicity(0, 0, min)", x.multiplicity(0, 0, Integer.MIN_VALUE), NONE);
        due(18, "multiplicity(0, 0, max)", x.multiplicity(0, 0, Integer.MAX_VALUE), NONE);
        due(18, "multiplicity(0, 0, 6)", x.multiplicity(0, 0, 6), NONE);
    }

    /** A number that is neither a class nor a row. */
    private static void wrongNumber(ClassCharacters x, int k) {
        due(9, "size(" + k + ")", x.size(k), 0);
        due(10, "least(" + k + ")", x.least(k), NONE);
        due(11, "power(" + k + ", 1)", x.power(k, 1), NONE);
        due(12, "constant(" + k + ", 0, 0)", x.constant(k, 0, 0), NONE);
        due(12, "constant(0, " + k + ", 0)", x.constant(0, k, 0), NONE);
        due(12, "constant(0, 0, " + k + ")", x.constant(0, 0, k), NONE);
        due(16, "degree(" + k + ")", x.degree(k), 0);
        due(17, "value(" + k + ", 0)", x.value(k, 0), NONE);
        due(17, "value(0, " + k + ")", x.value(0, k), NONE);
        due(18, "multiplicity(" + k + ", 0, 0)", x.multiplicity(k, 0, 0), NONE);
        due(18, "multiplicity(0, " + k + ", 0)", x.multiplicity(0, k, 0), NONE);
        due(19, "indicator(" + k + ")", x.indicator(k), 0);
        due(20, "kernel(" + k + ")", x.kernel(k), 0);
    }
}
