import java.util.ArrayList;
import java.util.List;

/**
 * Each sentence of the document that names a boundary case has a test of its own here: what is too
 * small, too large, empty, full, at a wrap-around or refused. The text of a test quotes the sentence.
 */
public final class BoundaryTests {
    private static final int NONE = -1;
    private static final int MIN = Integer.MIN_VALUE;
    private static final int MAX = Integer.MAX_VALUE;
    private static final int IDENTITY = 342391;
    private static final int GREATEST = 16434824;
    /** The first number with more than the eight octal digits of a code. */
    private static final int NINTH_DIGIT = 16777216;
    private static final int MOST_CALLS = 512;

    private static final String[] NO_GENERATORS = {};
    private static final String[] ONE_EXCHANGE = {"10234567"};
    private static final String[] TURN_OF_THREE = {"12034567"};
    private static final String[] TURN_OF_SEVEN = {"12345607"};
    private static final String[] S3 = {"12034567", "10234567"};
    private static final String[] KLEIN = {"10234567", "01324567"};
    private static final String[] QUATERNIONS = {"12305674", "47652103"};
    /** 16 elements, each a class of its own: as many classes as there may be. */
    private static final String[] FOUR_EXCHANGES = {"10234567", "01324567", "01235467", "01234576"};
    /** 16 classes too, but of 48 elements. */
    private static final String[] A4_AND_FOUR = {"12034567", "10324567", "01235674"};
    private static final String[] A5 = {"12340567", "12034567"};
    /** 120 elements: as many as there may be. */
    private static final String[] S5 = {"12340567", "10234567"};

    /** The least number of elements above 120 that permutations of eight points can make, in 20 classes. */
    private static final String[] OF_128 = {"10234567", "23014567", "45670123"};
    /** A4 twice: 16 classes. */
    private static final String[] OF_144 = {"12034567", "10324567", "01235647", "01235476"};
    /** Six classes. */
    private static final String[] OF_168 = {"12345607", "02145637"};
    private static final String[] S8 = {"12345670", "10234567"};

    private static final String[] CLASSES_17 = {"01324576", "32017645", "54760123", "01325467"};
    private static final String[] CLASSES_18 = {"12034567", "01245367", "01234576"};
    /** 96 elements. */
    private static final String[] CLASSES_20 = {"12304567", "10234567", "01235467", "01234576"};

    private static int sentences = 0;
    private static int broken = 0;
    private static int checked = 0;
    private static int wrong = 0;

    public static void main(String[] args) {
        codes();
        generators();
        groups();
        classesInGroups();
        powersExponentConstants();
        primes();
        roots();
        degreesAndOrderOfRows();
        rootsIndicatorsKernels();
        buildsThatFail();
        shownAfterBuilds();
        shownAfterAdd();
        shownAfterClear();
        lengthOfUse();
        promiseNew();
        promiseAdd();
        promiseClear();
        promiseBuild();
        promiseOrder();
        promiseElement();
        promiseClassOf();
        promiseClasses();
        promisesSizeAndLeast();
        promisePowerClass();
        promisePowerRange();
        promiseConstant();
        promisesOfPlainNumbers();
        promisesDegreeAndValue();
        promiseMultiplicity();
        promiseMultiplicityRange();
        promisesIndicatorAndKernel();
        System.out.println(sentences + " sentences tested with " + checked + " answers, " + broken + " broken");
        if (broken != 0) {
            System.exit(1);
        }
    }

    // the tests' own tools

    /** Tests one sentence; a call that throws breaks it, and so does a test that asks nothing. */
    private static void says(String sentence, Runnable test) {
        sentences++;
        int checkedBefore = checked;
        wrong = 0;
        try {
            test.run();
        } catch (RuntimeException thrown) {
            due("a call threw " + thrown + ", which", 1, 0);
        }
        if (wrong > 0 || checked == checkedBefore) {
            broken++;
            System.out.println("BROKEN: " + sentence);
        }
    }

    private static void due(String call, long got, long want) {
        checked++;
        if (got != want) {
            wrong++;
            if (wrong <= 5) {
                System.out.println("  " + call + " answered " + got + ", due is " + want);
            }
        }
    }

    private static void due(String call, boolean got, boolean want) {
        due(call, got ? 1 : 0, want ? 1 : 0);
    }

    private static int code(String images) {
        return Integer.parseInt(images, 8);
    }

    private static void addAll(ClassCharacters x, String... generators) {
        for (String images : generators) {
            x.add(code(images));
        }
    }

    private static ClassCharacters with(String... generators) {
        ClassCharacters x = new ClassCharacters();
        addAll(x, generators);
        return x;
    }

    private static ClassCharacters built(String... generators) {
        ClassCharacters x = with(generators);
        x.build();
        return x;
    }

    /** An object that had built another group before. */
    private static ClassCharacters rebuilt(String[] before, String... generators) {
        ClassCharacters x = built(before);
        x.clear();
        addAll(x, generators);
        x.build();
        return x;
    }

    private interface Call {
        long on(ClassCharacters x);
    }

    private record State(String name, ClassCharacters object) {
    }

    /** Every way to come to an object that shows nothing, each object new. */
    private static List<State> emptyStates() {
        List<State> states = new ArrayList<>();
        states.add(new State("new", new ClassCharacters()));
        states.add(new State("only added to", with(S3)));
        ClassCharacters refused = new ClassCharacters();
        refused.add(0);
        states.add(new State("only refused", refused));
        ClassCharacters cleared = new ClassCharacters();
        cleared.clear();
        states.add(new State("new and cleared", cleared));
        emptyAfterFine(states);
        emptyAfterFailure(states);
        return states;
    }

    private static void emptyAfterFine(List<State> states) {
        for (String[] group : new String[][] {NO_GENERATORS, S3, S5}) {
            ClassCharacters cleared = built(group);
            cleared.clear();
            states.add(new State("built and cleared", cleared));
            ClassCharacters added = built(group);
            added.add(IDENTITY);
            states.add(new State("built and added to", added));
            ClassCharacters large = built(group);
            addAll(large, S8);
            large.build();
            states.add(new State("built, then too large", large));
            ClassCharacters many = rebuilt(group, CLASSES_18);
            states.add(new State("built, then too many", many));
        }
    }

    private static void emptyAfterFailure(List<State> states) {
        for (String[] group : new String[][] {S8, OF_128, CLASSES_17, CLASSES_20}) {
            states.add(new State("failed", built(group)));
            ClassCharacters again = built(group);
            again.build();
            states.add(new State("failed twice", again));
            ClassCharacters cleared = built(group);
            cleared.clear();
            states.add(new State("failed and cleared", cleared));
            ClassCharacters added = built(group);
            added.add(IDENTITY);
            states.add(new State("failed and added to", added));
        }
    }

    /** What a call answers wherever nothing is built. */
    private static void dueWhenEmpty(String call, Call made, long want) {
        for (State state : emptyStates()) {
            due(state.name + ": " + call, made.on(state.object), want);
        }
    }

    private static void dueNothing(String when, ClassCharacters x) {
        due(when + ": order()", x.order(), 0);
        due(when + ": element(0)", x.element(0), NONE);
        due(when + ": classOf(identity)", x.classOf(IDENTITY), NONE);
        due(when + ": classes()", x.classes(), 0);
        due(when + ": size(0)", x.size(0), 0);
        due(when + ": least(0)", x.least(0), NONE);
        due(when + ": power(0, 0)", x.power(0, 0), NONE);
        due(when + ": constant(0, 0, 0)", x.constant(0, 0, 0), NONE);
        due(when + ": exponent()", x.exponent(), 0);
        due(when + ": prime()", x.prime(), 0);
        due(when + ": root()", x.root(), 0);
        due(when + ": degree(0)", x.degree(0), 0);
        due(when + ": value(0, 0)", x.value(0, 0), NONE);
        due(when + ": multiplicity(0, 0, 0)", x.multiplicity(0, 0, 0), NONE);
        due(when + ": indicator(0)", x.indicator(0), 0);
        due(when + ": kernel(0)", x.kernel(0), 0);
        due(when + ": normals()", x.normals(), 0);
    }

    /** One answer of every method for S3, whose 6 elements are in 3 classes. */
    private static void dueS3(String when, ClassCharacters x) {
        due(when + ": order()", x.order(), 6);
        due(when + ": element(5)", x.element(5), code("21034567"));
        due(when + ": classOf(20134567)", x.classOf(code("20134567")), 2);
        due(when + ": classes()", x.classes(), 3);
        due(when + ": size(1)", x.size(1), 3);
        due(when + ": least(2)", x.least(2), code("12034567"));
        due(when + ": power(2, 3)", x.power(2, 3), 0);
        due(when + ": constant(1, 1, 2)", x.constant(1, 1, 2), 3);
        due(when + ": exponent()", x.exponent(), 6);
        due(when + ": prime()", x.prime(), 7);
        due(when + ": root()", x.root(), 3);
        due(when + ": degree(2)", x.degree(2), 2);
        due(when + ": value(2, 2)", x.value(2, 2), 6);
        due(when + ": multiplicity(2, 2, 4)", x.multiplicity(2, 2, 4), 1);
        due(when + ": indicator(2)", x.indicator(2), 1);
        due(when + ": kernel(1)", x.kernel(1), 5);
        due(when + ": normals()", x.normals(), 3);
    }

    /** No class or row of a group with so many: next to the range, at the ends of ints and of arrays. */
    private static int[] notBelow(int count) {
        return new int[] {-1, count, count + 1, 16, 17, 120, 256, 1000, -2, -16, -256, NINTH_DIGIT, MIN, MIN + 1, MAX};
    }

    private interface OfNumber {
        long on(ClassCharacters x, int number);
    }

    /** What a call answers for no class or no row, of groups that have 1, 3, 7 and 16. */
    private static void dueOfNone(String call, OfNumber made, long want) {
        for (String[] group : new String[][] {NO_GENERATORS, S3, S5, FOUR_EXCHANGES}) {
            int count = built(group).classes();
            for (int c : notBelow(count)) {
                if (c < 0 || c >= count) {
                    due(call + " with " + c + " of " + count, made.on(built(group), c), want);
                    due(call + " with " + c + " of " + count + ", 16 before",
                        made.on(rebuilt(A4_AND_FOUR, group), c), want);
                }
            }
        }
    }

    /** What a call answers for any number wherever nothing is built. */
    private static void dueWhenEmpty(String call, OfNumber made, long want) {
        for (int c : new int[] {0, 1, 15, -1, MIN, MAX}) {
            dueWhenEmpty(call + " with " + c, x -> made.on(x, c), want);
        }
    }

    // Terms

    private static void codes() {
        says("The CODE of one is the sum of (image of x) * 8^(7 - x): nothing below the identity's is one", () -> {
            for (int low : new int[] {0, 1, -1, 7, IDENTITY - 1, IDENTITY - 7, -IDENTITY, ~IDENTITY, MIN, MIN + 1}) {
                due("add(" + low + ")", new ClassCharacters().add(low), false);
            }
            due("add(least)", new ClassCharacters().add(IDENTITY), true);
        });

        says("PERMUTATIONS are of the points 0 .. 7: 76543210 is the greatest code, more digits are none", () -> {
            due("add(greatest)", new ClassCharacters().add(GREATEST), true);
            int[] high = {GREATEST + 1, NINTH_DIGIT - 1, NINTH_DIGIT, NINTH_DIGIT + 1, GREATEST + NINTH_DIGIT, MAX};
            for (int more : high) {
                due("add(" + more + ")", new ClassCharacters().add(more), false);
            }
            for (int top = 1; top <= 255; top++) {
                int wrapped = IDENTITY + top * NINTH_DIGIT;
                due("add(" + wrapped + ")", new ClassCharacters().add(wrapped), false);
            }
        });

        says("PERMUTATIONS: a code that has one image twice is none", () -> {
            for (int x = 0; x < 8; x++) {
                for (int y = 0; y < 8; y++) {
                    char[] images = "01234567".toCharArray();
                    images[x] = (char) ('0' + y);
                    due("add(" + new String(images) + ")", new ClassCharacters().add(code(new String(images))), x == y);
                }
            }
        });

        says("342391 is the code of the IDENTITY", () -> {
            ClassCharacters x = with("01234567");
            due("build()", x.build(), ClassCharacters.FINE);
            due("order()", x.order(), 1);
            due("element(0)", x.element(0), IDENTITY);
        });
    }

    private static void generators() {
        says("There are at most 4 GENERATORS: the fourth is taken and counts, the fifth is refused", () -> {
            ClassCharacters x = with("10234567", "01324567", "01235467");
            due("the fourth", x.add(code("01234576")), true);
            due("the fifth", x.add(code("12034567")), false);
            due("build()", x.build(), ClassCharacters.FINE);
            due("order()", x.order(), 16);
            due("the fourth's class", x.classOf(code("01234576")) >= 0, true);
            due("the fifth's class", x.classOf(code("12034567")), NONE);
        });
    }

    private static void groups() {
        says("The GROUP has the identity (also when no generator is the identity)", () -> {
            for (String[] group : new String[][] {NO_GENERATORS, ONE_EXCHANGE, TURN_OF_THREE, FOUR_EXCHANGES, S5}) {
                due("element(0)", built(group).element(0), IDENTITY);
            }
        });

        says("The GROUP has all products of generators, with any number of factors", () -> {
            ClassCharacters fifteen = built("12045673");
            due("the longest turn: order()", fifteen.order(), 15);
            due("fourteen factors", fifteen.classOf(code("20173456")) >= 0, true);
            due("S5: order()", built(S5).order(), 120);
            due("S5 by exchanges: order()", built("10234567", "02134567", "01324567", "01243567").order(), 120);
        });

        says("The elements are in the order of their codes", () -> {
            ClassCharacters turns = built("12345670", "76543210");
            due("order()", turns.order(), 16);
            due("element(15)", turns.element(15), GREATEST);
            for (int k = 1; k < 16; k++) {
                due("element " + k + " is more than the one before", turns.element(k) > turns.element(k - 1), true);
            }
            ClassCharacters full = built(S5);
            for (int k = 1; k < 120; k++) {
                due("element " + k + " is more than the one before", full.element(k) > full.element(k - 1), true);
            }
            due("element(119)", full.element(119), code("43210567"));
        });
    }

    private static void classesInGroups() {
        says("Two elements are in one CLASS if there is an element g OF THE GROUP with g y = x g", () -> {
            ClassCharacters turn = built(TURN_OF_THREE);
            due("a turn and its inverse", turn.classOf(code("12034567")) == turn.classOf(code("20134567")), false);
            ClassCharacters turned = built(S3);
            due("both in S3", turned.classOf(code("12034567")) == turned.classOf(code("20134567")), true);
            ClassCharacters apart = built(KLEIN);
            due("two exchanges", apart.classOf(code("10234567")) == apart.classOf(code("01324567")), false);
        });

        says("Classes are counted 0, 1, .. in the order of their LEAST elements (class 0 is the identity's)", () -> {
            for (String[] group : new String[][] {NO_GENERATORS, S3, FOUR_EXCHANGES, A4_AND_FOUR, S5}) {
                ClassCharacters x = built(group);
                due("classOf(identity)", x.classOf(IDENTITY), 0);
                due("size(0)", x.size(0), 1);
                due("least(0)", x.least(0), IDENTITY);
                for (int c = 1; c < x.classes(); c++) {
                    due("least(" + c + ") is more", x.least(c) > x.least(c - 1), true);
                    due("classOf(least(" + c + "))", x.classOf(x.least(c)), c);
                }
            }
        });
    }

    private static void powersExponentConstants() {
        says("The m-th POWER of a class: x^0 is the identity", () -> {
            ClassCharacters most = built(A4_AND_FOUR);
            for (int c = 0; c < 16; c++) {
                due("power(" + c + ", 0)", most.power(c, 0), 0);
            }
        });

        says("The EXPONENT e is the least number above 0 for which x^e is the identity for every element", () -> {
            due("the identity alone", built(NO_GENERATORS).exponent(), 1);
            due("four exchanges", built(FOUR_EXCHANGES).exponent(), 2);
            due("S3, where no element has so long a turn", built(S3).exponent(), 6);
            due("one turn of 15", built("12045673").exponent(), 15);
            due("S5, the most of all", built(S5).exponent(), 60);
        });

        says("The CONSTANT a(i, j, l) is the NUMBER of pairs, which may be none", () -> {
            due("identities", built(NO_GENERATORS).constant(0, 0, 0), 1);
            ClassCharacters s3 = built(S3);
            due("exchanges make no exchange", s3.constant(1, 1, 1), 0);
            due("an exchange times the identity is no turn", s3.constant(0, 1, 2), 0);
            due("two exchanges make a turn", s3.constant(1, 1, 2), 3);
            due("as many identities as the class has elements", built(S5).constant(6, 6, 0), 24);
        });
    }

    private static void dueNumbers(int order, int exponent, int prime, int root, String... generators) {
        ClassCharacters x = built(generators);
        String group = String.join(" ", generators);
        due(group + ": order()", x.order(), order);
        due(group + ": exponent()", x.exponent(), exponent);
        due(group + ": prime()", x.prime(), prime);
        due(group + ": root()", x.root(), root);
    }

    private static void primes() {
        says("The PRIME p is the least prime number with p * p MORE than 4 n: for n = 1, 2 * 2 is not", () -> {
            dueNumbers(1, 1, 3, 1, NO_GENERATORS);
        });

        says("p * p more than 4 n: just more is enough", () -> {
            dueNumbers(2, 2, 3, 2, ONE_EXCHANGE);
            dueNumbers(12, 6, 7, 3, "12034567", "10234567", "01234576");
            dueNumbers(36, 6, 13, 4, "12034567", "10234567", "01245367", "01243567");
        });

        says("p * p more than 4 n: a prime whose square is less is passed over", () -> {
            dueNumbers(3, 3, 7, 2, TURN_OF_THREE);
            dueNumbers(4, 2, 5, 4, KLEIN);
            dueNumbers(8, 2, 7, 6, "10234567", "01324567", "01235467");
            dueNumbers(8, 4, 13, 5, "12304567", "03214567");
            dueNumbers(72, 6, 19, 8, "12034567", "10324567", "01235647", "01235467");
        });

        says("The PRIME is a prime number: other numbers with p - 1 a multiple of e are passed over", () -> {
            dueNumbers(16, 2, 11, 10, FOUR_EXCHANGES);
            dueNumbers(8, 8, 17, 2, "12345670");
            dueNumbers(48, 24, 73, 7, "57320614", "75102634");
        });

        says("p - 1 is a multiple of e: also of e itself, once", () -> {
            dueNumbers(42, 42, 43, 3, "12345607", "03625147");
            dueNumbers(120, 60, 61, 2, S5);
        });
    }

    private static void roots() {
        says("The ROOT z is the least number from 1 to p - 1: the ends of the range", () -> {
            dueNumbers(1, 1, 3, 1, NO_GENERATORS);
            dueNumbers(2, 2, 3, 2, ONE_EXCHANGE);
            dueNumbers(16, 2, 11, 10, FOUR_EXCHANGES);
        });

        says("The ROOT: no z^m with m = 1 .. e - 1 leaves 1, and it is the least such z", () -> {
            dueNumbers(3, 3, 7, 2, TURN_OF_THREE);
            dueNumbers(21, 21, 43, 9, "12345607", "02461357");
            dueNumbers(15, 15, 31, 7, "12045673");
        });
    }

    private static void degreesAndOrderOfRows() {
        says("The DEGREE d is the number from 1 to (p - 1) / 2: that may be 1 alone", () -> {
            due("the identity's degree", built(NO_GENERATORS).degree(0), 1);
            due("an exchange's first", built(ONE_EXCHANGE).degree(0), 1);
            due("an exchange's last", built(ONE_EXCHANGE).degree(1), 1);
            due("the greatest of all", built("12340567", "02413567", "01234675", "01234657").degree(14), 8);
        });

        says("Rows are counted in the order of their degrees (as whole numbers)", () -> {
            for (String[] group : new String[][] {S3, A5, S5, A4_AND_FOUR}) {
                ClassCharacters x = built(group);
                for (int r = 1; r < x.classes(); r++) {
                    due("degree(" + r + ") is not less", x.degree(r) >= x.degree(r - 1), true);
                }
                due("degree(0)", x.degree(0), 1);
            }
        });

        says("Rows of equal degree are in the order of their values at class 1, then 2, and so on", () -> {
            ClassCharacters rows = built(FOUR_EXCHANGES);
            int decidedLast = 0;
            for (int r = 1; r < 16; r++) {
                int first = firstDifference(rows, r);
                due("row " + r + " has more", rows.value(r, first) > rows.value(r - 1, first), true);
                decidedLast = Math.max(decidedLast, first);
            }
            due("the last class that decides", decidedLast, 8);
            // rows 7 and 8 of these 96 elements are the same at the classes before 11
            ClassCharacters late = built("24051673", "24150637");
            due("decided late", firstDifference(late, 8), 11);
            due("value(7, 11)", late.value(7, 11), 15);
            due("value(8, 11)", late.value(8, 11), 22);
            due("-1 is p - 1 and comes last", built(ONE_EXCHANGE).value(1, 1), 2);
            due("all values of row 0 are 1", built(FOUR_EXCHANGES).value(0, 15), 1);
        });
    }

    private static void rootsIndicatorsKernels() {
        says("The MULTIPLICITY is never more than d; all d roots may be one", () -> {
            ClassCharacters full = built(S5);
            due("6 times 1 at the identity", full.multiplicity(6, 0, 0), 6);
            due("no other there", full.multiplicity(6, 0, 59), 0);
            due("twice -1", built(QUATERNIONS).multiplicity(4, 2, 2), 2);
            due("once 1 of e = 1", built(NO_GENERATORS).multiplicity(0, 0, 0), 1);
        });

        says("The INDICATOR is 0, 1 or p - 1; p - 1 is shown as -1", () -> {
            due("-1", built(QUATERNIONS).indicator(4), -1);
            due("0", built(TURN_OF_THREE).indicator(1), 0);
            due("1", built(TURN_OF_THREE).indicator(0), 1);
            due("1, with p = 3", built(ONE_EXCHANGE).indicator(1), 1);
        });

        says("The KERNEL of a row has the classes at which its value is d: from one to all", () -> {
            due("all of one", built(NO_GENERATORS).kernel(0), 1);
            due("all of 16", built(FOUR_EXCHANGES).kernel(0), 65535);
            due("one alone", built(S5).kernel(6), 1);
            due("its value is d = 2 at class 3", built("12304567", "10234567").kernel(2), 9);
        });

        says("The NORMAL subgroups are common to some of the kernels (ONE or more)", () -> {
            due("the identity alone", built(NO_GENERATORS).normals(), 1);
            due("A5", built(A5).normals(), 2);
            due("the identity is common only to two", built(KLEIN).normals(), 5);
            due("the most of all", built(FOUR_EXCHANGES).normals(), 67);
        });
    }

    /** The first class at which a row and the one before it differ. */
    private static int firstDifference(ClassCharacters x, int row) {
        int c = 0;
        while (c < x.classes() - 1 && x.value(row, c) == x.value(row - 1, c)) {
            c++;
        }
        return c;
    }

    private static void dueOutcome(int outcome, String... generators) {
        String group = String.join(" ", generators);
        ClassCharacters x = with(generators);
        due(group + ": build()", x.build(), outcome);
        due(group + ": build() again", x.build(), outcome);
    }

    private static void buildsThatFail() {
        says("It FAILS when the group has more than 120 elements: 120 are not more", () -> {
            dueOutcome(ClassCharacters.FINE, S5);
            due("order()", built(S5).order(), 120);
            dueOutcome(ClassCharacters.FINE, "12340567", "12034576");
            dueOutcome(ClassCharacters.FINE, "12340567", "02413567", "01234675", "01234657");
        });

        says("It FAILS when the group has more than 120 elements (TOO_LARGE)", () -> {
            dueOutcome(ClassCharacters.TOO_LARGE, OF_128);
            dueOutcome(ClassCharacters.TOO_LARGE, OF_144);
            dueOutcome(ClassCharacters.TOO_LARGE, OF_168);
            dueOutcome(ClassCharacters.TOO_LARGE, S8);
        });

        says("It FAILS .. or else more than 16 classes: 16 are not more", () -> {
            dueOutcome(ClassCharacters.FINE, FOUR_EXCHANGES);
            due("classes()", built(FOUR_EXCHANGES).classes(), 16);
            dueOutcome(ClassCharacters.FINE, A4_AND_FOUR);
            due("classes()", built(A4_AND_FOUR).classes(), 16);
        });

        says("It FAILS .. or else more than 16 classes (TOO_MANY)", () -> {
            dueOutcome(ClassCharacters.TOO_MANY, CLASSES_17);
            dueOutcome(ClassCharacters.TOO_MANY, CLASSES_18);
            dueOutcome(ClassCharacters.TOO_MANY, CLASSES_20);
        });

        says("or ELSE more than 16 classes: with more than 120 elements too it is TOO_LARGE", () -> {
            dueOutcome(ClassCharacters.TOO_LARGE, OF_128);
            dueOutcome(ClassCharacters.TOO_LARGE, "12304567", "10234567", "01235674", "01235467");
        });
    }

    private static void shownAfterBuilds() {
        says("What the methods show is of the LATEST build: a smaller group after a larger one", () -> {
            dueS3("after S5", rebuilt(S5, S3));
            dueS3("after 16 classes", rebuilt(FOUR_EXCHANGES, S3));
            dueS3("after the identity alone", rebuilt(NO_GENERATORS, S3));
            ClassCharacters grown = built(TURN_OF_THREE);
            grown.add(code("10234567"));
            grown.build();
            dueS3("grown", grown);
        });

        says(".. if it did not FAIL: nothing after TOO_LARGE, also when a build before it was fine", () -> {
            for (String[] group : new String[][] {OF_128, OF_144, OF_168, S8}) {
                dueNothing("too large", built(group));
                dueNothing("fine, then too large", rebuilt(S3, group));
            }
        });

        says(".. if it did not FAIL: nothing after TOO_MANY, also when a build before it was fine", () -> {
            for (String[] group : new String[][] {CLASSES_17, CLASSES_18, CLASSES_20}) {
                dueNothing("too many", built(group));
                dueNothing("fine, then too many", rebuilt(S3, group));
            }
        });

        says("A build that failed does not stop a later one from being fine", () -> {
            dueS3("too large, then S3", rebuilt(S8, S3));
            dueS3("too many, then S3", rebuilt(CLASSES_17, S3));
        });
    }

    private static void shownAfterAdd() {
        says(".. no add() after it answered TRUE: nothing, even if the group stays the same", () -> {
            for (String images : new String[] {"01234567", "10234567", "20134567", "01234576"}) {
                ClassCharacters x = built(S3);
                due("add(" + images + ")", x.add(code(images)), true);
                dueNothing("after add(" + images + ")", x);
            }
        });

        says(".. no add() after it answered TRUE: an add() that answered false takes nothing away", () -> {
            ClassCharacters kept = built(S3);
            for (int refused : new int[] {0, -1, IDENTITY - 1, GREATEST + 1, IDENTITY + NINTH_DIGIT, MIN, MAX}) {
                due("add(" + refused + ")", kept.add(refused), false);
                dueS3("after add(" + refused + ")", kept);
            }
            ClassCharacters full = built("12034567", "10234567", "12034567", "01234567");
            due("the fifth", full.add(code("01234576")), false);
            dueS3("after a fifth", full);
        });
    }

    private static void shownAfterClear() {
        says(".. and clear() was not called after it", () -> {
            ClassCharacters cleared = built(S3);
            cleared.clear();
            dueNothing("cleared", cleared);
            cleared.clear();
            dueNothing("cleared twice", cleared);
        });

        says(".. clear() (also when there were no generators)", () -> {
            ClassCharacters alone = built(NO_GENERATORS);
            due("order()", alone.order(), 1);
            alone.clear();
            dueNothing("no generators, cleared", alone);
        });

        says("otherwise there is nothing: no order, no elements, classes, rows", () -> {
            for (State state : emptyStates()) {
                dueNothing(state.name, state.object);
            }
        });
    }

    private static void lengthOfUse() {
        says("An object is used for at most 512 calls: the 512th still answers", () -> {
            Call[] calls = {x -> x.order(), x -> x.element(119), x -> x.classOf(code("43210567")), x -> x.classes(),
                x -> x.size(6), x -> x.least(6), x -> x.power(6, 1000), x -> x.constant(6, 6, 0), x -> x.exponent(),
                x -> x.prime(), x -> x.root(), x -> x.degree(6), x -> x.value(6, 0), x -> x.multiplicity(6, 0, 0),
                x -> x.indicator(6), x -> x.kernel(6), x -> x.normals(), x -> x.build(), x -> x.add(IDENTITY) ? 1 : 0};
            for (int k = 0; k < calls.length; k++) {
                ClassCharacters used = built(S5);
                for (int before = 3; before < MOST_CALLS - 1; before++) {
                    calls[before % 17].on(used);
                }
                due("call " + k + " as the 512th", calls[k].on(used), calls[k].on(built(S5)));
            }
        });

        says("An object is used for at most 512 calls: that may be 128 builds of other groups", () -> {
            ClassCharacters x = new ClassCharacters();
            for (int round = 0; round < MOST_CALLS / 4; round++) {
                x.clear();
                due("add in round " + round, x.add(code(round % 2 == 0 ? "10234567" : "12345670")), true);
                due("build in round " + round, x.build(), ClassCharacters.FINE);
                due("order in round " + round, x.order(), round % 2 == 0 ? 2 : 8);
            }
        });

        says("An object is used for at most 512 calls: refused ones change nothing", () -> {
            ClassCharacters refused = built(S3);
            for (int k = 0; k < MOST_CALLS - 20; k++) {
                refused.add(k % 2 == 0 ? k : -k);
            }
            dueS3("after many refused calls", refused);
        });
    }

    // the promises

    private static void promiseNew() {
        says("Promise 1: No generators", () -> {
            ClassCharacters x = new ClassCharacters();
            due("build()", x.build(), ClassCharacters.FINE);
            due("order()", x.order(), 1);
            ClassCharacters room = new ClassCharacters();
            for (int k = 0; k < 4; k++) {
                due("add", room.add(GREATEST), true);
            }
        });

        says("Promise 1: nothing is built", () -> {
            dueNothing("new", new ClassCharacters());
        });

        says("Promise 1: .. whatever other objects have built", () -> {
            ClassCharacters other = built(S5);
            ClassCharacters fresh = new ClassCharacters();
            dueNothing("new beside another", fresh);
            due("build() of the new", fresh.build(), ClassCharacters.FINE);
            due("order() of the other", other.order(), 120);
            due("order() of the new", fresh.order(), 1);
        });
    }

    private static void promiseAdd() {
        says("Promise 2: false, CHANGING NOTHING, if code is not the code of a permutation", () -> {
            ClassCharacters x = new ClassCharacters();
            for (int refused : new int[] {0, -1, IDENTITY - 1, IDENTITY + 1, GREATEST + 1, NINTH_DIGIT, MIN, MAX}) {
                due("add(" + refused + ")", x.add(refused), false);
            }
            dueNothing("refused", x);
            for (String images : FOUR_EXCHANGES) {
                due("add after refused ones", x.add(code(images)), true);
            }
            due("build()", x.build(), ClassCharacters.FINE);
            due("order()", x.order(), 16);
        });

        says("Promise 2: false, CHANGING NOTHING, if 4 generators are there", () -> {
            ClassCharacters full = with("10234567", "10234567", "10234567", "10234567");
            due("a fifth", full.add(code("01324567")), false);
            due("a fifth that is there", full.add(code("10234567")), false);
            due("a fifth that is no code", full.add(0), false);
            due("build()", full.build(), ClassCharacters.FINE);
            due("order()", full.order(), 2);
            due("a fifth when built", full.add(code("01324567")), false);
            due("order() still", full.order(), 2);
            due("build() again", full.build(), ClassCharacters.FINE);
            due("order() built again", full.order(), 2);
        });

        says("Promise 2: false, CHANGING NOTHING, after a build that failed", () -> {
            ClassCharacters failed = built(S8);
            due("add(0)", failed.add(0), false);
            dueNothing("failed and refused", failed);
            due("build()", failed.build(), ClassCharacters.TOO_LARGE);
        });

        says("Promise 2: (One may be added again.) and it counts", () -> {
            ClassCharacters again = new ClassCharacters();
            for (int k = 0; k < 4; k++) {
                due("add", again.add(code("12034567")), true);
            }
            due("a fifth", again.add(code("12034567")), false);
            due("build()", again.build(), ClassCharacters.FINE);
            due("order()", again.order(), 3);
        });
    }

    private static void promiseClear() {
        says("Promise 3: Takes ALL generators away", () -> {
            ClassCharacters x = with(FOUR_EXCHANGES);
            x.clear();
            due("build()", x.build(), ClassCharacters.FINE);
            due("order()", x.order(), 1);
        });

        says("Promise 3: .. so that four more can be added", () -> {
            ClassCharacters full = with("12034567", "12034567", "12034567", "12034567");
            due("a fifth", full.add(IDENTITY), false);
            full.clear();
            for (String images : FOUR_EXCHANGES) {
                due("add(" + images + ")", full.add(code(images)), true);
            }
            due("a fifth again", full.add(IDENTITY), false);
            due("build()", full.build(), ClassCharacters.FINE);
            due("order()", full.order(), 16);
        });

        says("Promise 3: .. where there are none too, and twice", () -> {
            ClassCharacters none = new ClassCharacters();
            none.clear();
            none.clear();
            dueNothing("new and cleared twice", none);
            due("build()", none.build(), ClassCharacters.FINE);
            due("order()", none.order(), 1);
        });

        says("Promise 3: .. after builds that failed", () -> {
            for (String[] group : new String[][] {S8, CLASSES_17}) {
                ClassCharacters failed = built(group);
                failed.clear();
                dueNothing("failed and cleared", failed);
                due("build()", failed.build(), ClassCharacters.FINE);
                due("order()", failed.order(), 1);
            }
        });
    }

    private static void promiseBuild() {
        says("Promise 4: (Without generators the group is the identity alone.)", () -> {
            ClassCharacters x = new ClassCharacters();
            due("build()", x.build(), ClassCharacters.FINE);
            due("order()", x.order(), 1);
            due("classes()", x.classes(), 1);
            due("element(0)", x.element(0), IDENTITY);
            due("element(1)", x.element(1), NONE);
        });

        says("Promise 4: Builds anew each time, the generators stay", () -> {
            ClassCharacters again = with(S3);
            for (int k = 0; k < 3; k++) {
                due("build()", again.build(), ClassCharacters.FINE);
                dueS3("built again", again);
            }
            due("a fifth is still one", again.add(IDENTITY) && again.add(IDENTITY) && !again.add(IDENTITY), true);
            due("build()", again.build(), ClassCharacters.FINE);
            dueS3("built after more of the same", again);
        });

        says("Promise 4: the generators stay when it fails too", () -> {
            for (String[] group : new String[][] {S8, CLASSES_18}) {
                ClassCharacters failed = with(group);
                int outcome = failed.build();
                due("it fails", outcome == ClassCharacters.FINE, false);
                due("add", failed.add(IDENTITY), true);
                due("build() with the identity too", failed.build(), outcome);
                due("a fifth", group.length == 3 && failed.add(IDENTITY), false);
            }
        });

        says("Promise 4: Builds: also from generators that came after a build", () -> {
            ClassCharacters grown = new ClassCharacters();
            int[] orders = {2, 4, 8, 16};
            for (int k = 0; k < 4; k++) {
                grown.add(code(FOUR_EXCHANGES[k]));
                due("build()", grown.build(), ClassCharacters.FINE);
                due("order()", grown.order(), orders[k]);
            }
        });

        says("Promise 4: FINE, TOO_LARGE or TOO_MANY: one after the other on one object", () -> {
            ClassCharacters turns = new ClassCharacters();
            String[][] groups = {S5, OF_128, CLASSES_17, S3, CLASSES_20, S8, NO_GENERATORS, FOUR_EXCHANGES};
            int[] outcomes = {0, 1, 2, 0, 2, 1, 0, 0};
            int[] shown = {120, 0, 0, 6, 0, 0, 1, 16};
            for (int k = 0; k < groups.length; k++) {
                turns.clear();
                addAll(turns, groups[k]);
                due("build() " + k, turns.build(), outcomes[k]);
                due("order() " + k, turns.order(), shown[k]);
            }
        });
    }

    private static void promiseOrder() {
        says("Promise 5: The order: from 1 to 120", () -> {
            due("the identity alone", built(NO_GENERATORS).order(), 1);
            due("S5", built(S5).order(), 120);
        });

        says("Promise 5: 0 if nothing is built", () -> {
            dueWhenEmpty("order()", x -> x.order(), 0);
        });
    }

    private static void promiseElement() {
        says("Promise 6: The code of element k (from 0)", () -> {
            due("the first of one", built(NO_GENERATORS).element(0), IDENTITY);
            due("the first of 120", built(S5).element(0), IDENTITY);
            due("the last of 120", built(S5).element(119), code("43210567"));
            due("the last of two", built(ONE_EXCHANGE).element(1), code("10234567"));
        });

        says("Promise 6: NONE if there is none: k too small or too large", () -> {
            for (String[] group : new String[][] {NO_GENERATORS, ONE_EXCHANGE, S3, S5}) {
                int n = built(group).order();
                for (int k : new int[] {-1, n, n + 1, 120, 121, 128, -120, NINTH_DIGIT, MIN, MIN + n, MAX}) {
                    due("element(" + k + ") of " + n, built(group).element(k), NONE);
                    due("element(" + k + ") of " + n + ", S5 before", rebuilt(S5, group).element(k), NONE);
                }
            }
        });

        says("Promise 6: NONE if nothing is built", () -> {
            dueWhenEmpty("element(0)", x -> x.element(0), NONE);
            dueWhenEmpty("element(-1)", x -> x.element(-1), NONE);
            dueWhenEmpty("element(119)", x -> x.element(119), NONE);
        });
    }

    private static void promiseClassOf() {
        says("Promise 7: NONE if it is no element's code: no code of a permutation", () -> {
            for (int no : new int[] {0, -1, 1, IDENTITY - 1, IDENTITY + 1, GREATEST + 1, NINTH_DIGIT - 1, MIN, MAX}) {
                due("classOf(" + no + ")", built(S5).classOf(no), NONE);
                due("classOf(" + no + ")", built(NO_GENERATORS).classOf(no), NONE);
            }
            for (int top = 1; top <= 255; top++) {
                int wrapped = code("10234567") + top * NINTH_DIGIT;
                due("classOf(" + wrapped + ")", built(S3).classOf(wrapped), NONE);
            }
        });

        says("Promise 7: NONE if it is no element's code: a permutation outside the group", () -> {
            due("behind the last", built(S5).classOf(GREATEST), NONE);
            due("next to the first", built(S5).classOf(code("01234576")), NONE);
            due("between two", built(S3).classOf(code("10243567")), NONE);
            due("of one", built(NO_GENERATORS).classOf(GREATEST), NONE);
            due("of the group before", rebuilt(S5, S3).classOf(code("12340567")), NONE);
            due("the inverse is inside", built(TURN_OF_THREE).classOf(code("20134567")), 2);
        });

        says("Promise 7: NONE if nothing is built", () -> {
            dueWhenEmpty("classOf(identity)", x -> x.classOf(IDENTITY), NONE);
            dueWhenEmpty("classOf(10234567)", x -> x.classOf(code("10234567")), NONE);
            dueWhenEmpty("classOf(-1)", x -> x.classOf(-1), NONE);
        });
    }

    private static void promiseClasses() {
        says("Promise 8: The number of classes, which is the number of rows: from 1 to 16", () -> {
            due("the identity alone", built(NO_GENERATORS).classes(), 1);
            due("four exchanges", built(FOUR_EXCHANGES).classes(), 16);
            for (String[] group : new String[][] {NO_GENERATORS, S3, FOUR_EXCHANGES, S5}) {
                ClassCharacters x = built(group);
                due("the last class's size is not 0", x.size(x.classes() - 1) > 0, true);
                due("the last row's degree is not 0", x.degree(x.classes() - 1) > 0, true);
                due("no class more", x.size(x.classes()), 0);
                due("no row more", x.degree(x.classes()), 0);
            }
        });

        says("Promise 8: 0 if nothing is built", () -> {
            dueWhenEmpty("classes()", x -> x.classes(), 0);
        });
    }

    private static void promisesSizeAndLeast() {
        says("Promise 9: The number of elements of class c; 0 if there is none", () -> {
            due("the last of 16", built(A4_AND_FOUR).size(15), 3);
            dueOfNone("size", (x, c) -> x.size(c), 0);
        });

        says("Promise 9: 0 if nothing is built", () -> {
            dueWhenEmpty("size(c)", (x, c) -> x.size(c), 0);
        });

        says("Promise 10: The code of the least element of class c; NONE if there is none", () -> {
            due("the last of 16", built(FOUR_EXCHANGES).least(15), code("10325476"));
            dueOfNone("least", (x, c) -> x.least(c), NONE);
        });

        says("Promise 10: NONE if nothing is built", () -> {
            dueWhenEmpty("least(c)", (x, c) -> x.least(c), NONE);
        });
    }

    private static void promisePowerClass() {
        says("Promise 11: NONE if there is no such class", () -> {
            due("the last of 16", built(FOUR_EXCHANGES).power(15, 1), 15);
            dueOfNone("power(c, 0)", (x, c) -> x.power(c, 0), NONE);
            dueOfNone("power(c, 1000)", (x, c) -> x.power(c, 1000), NONE);
            dueOfNone("power(c, -1)", (x, c) -> x.power(c, -1), NONE);
            dueOfNone("power(c, 1001)", (x, c) -> x.power(c, 1001), NONE);
        });

        says("Promise 11: NONE if nothing is built", () -> {
            dueWhenEmpty("power(c, 0)", (x, c) -> x.power(c, 0), NONE);
            dueWhenEmpty("power(0, m)", (x, m) -> x.power(0, m), NONE);
        });
    }

    private static void promisePowerRange() {
        says("Promise 11: NONE if m is not 0 .. 1000: the ends of the range", () -> {
            ClassCharacters seven = built(TURN_OF_SEVEN);
            for (int c = 0; c < 7; c++) {
                due("power(" + c + ", 0)", seven.power(c, 0), 0);
                due("power(" + c + ", 1)", seven.power(c, 1), c);
                // 1000 leaves 6 modulo 7, 999 leaves 5
                due("power(" + c + ", 1000)", seven.power(c, 1000), seven.power(c, 6));
                due("power(" + c + ", 999)", seven.power(c, 999), seven.power(c, 5));
            }
            due("power(1, 6) is the inverse's class", seven.power(1, 6), seven.classOf(code("60123457")));
            due("power(1, 1000) is too", seven.power(1, 1000), seven.classOf(code("60123457")));
            due("power(0, 1000)", built(NO_GENERATORS).power(0, 1000), 0);
        });

        says("Promise 11: NONE if m is not 0 .. 1000: outside the range", () -> {
            ClassCharacters seven = built(TURN_OF_SEVEN);
            for (int m : new int[] {-1, -2, -7, -1000, MIN, MIN + 1, 1001, 1002, 1007, 2000, 65536, MAX}) {
                due("power(0, " + m + ")", seven.power(0, m), NONE);
                due("power(1, " + m + ")", seven.power(1, m), NONE);
                due("power(0, " + m + ") of one", built(NO_GENERATORS).power(0, m), NONE);
            }
        });

        says("Promise 11: The m-th power wraps around at the order of the elements", () -> {
            ClassCharacters seven = built(TURN_OF_SEVEN);
            for (int m = 0; m <= 40; m++) {
                due("power(1, " + m + ")", seven.power(1, m), seven.power(1, m % 7));
            }
        });
    }

    private static void promiseConstant() {
        says("Promise 12: NONE if one is no class: i", () -> {
            dueOfNone("constant(c, 0, 0)", (x, c) -> x.constant(c, 0, 0), NONE);
        });

        says("Promise 12: NONE if one is no class: j", () -> {
            dueOfNone("constant(0, c, 0)", (x, c) -> x.constant(0, c, 0), NONE);
        });

        says("Promise 12: NONE if one is no class: l", () -> {
            dueOfNone("constant(0, 0, c)", (x, c) -> x.constant(0, 0, c), NONE);
        });

        says("Promise 12: NONE if one is no class: two of them, or all", () -> {
            dueOfNone("constant(c, c, 0)", (x, c) -> x.constant(c, c, 0), NONE);
            dueOfNone("constant(c, 0, c)", (x, c) -> x.constant(c, 0, c), NONE);
            dueOfNone("constant(0, c, c)", (x, c) -> x.constant(0, c, c), NONE);
            dueOfNone("constant(c, c, c)", (x, c) -> x.constant(c, c, c), NONE);
        });

        says("Promise 12: NONE if one is no class: one that another could make good", () -> {
            ClassCharacters most = built(FOUR_EXCHANGES);
            due("constant(1, -1, 16)", most.constant(1, -1, 16), NONE);
            due("constant(0, 1, -1)", most.constant(0, 1, -1), NONE);
            due("constant(1, -16, 0)", most.constant(1, -16, 0), NONE);
            due("constant(-1, 16, 0)", most.constant(-1, 16, 0), NONE);
            due("constant(0, 0, 255)", most.constant(0, 0, 255), NONE);
            due("constant(15, 15, 0)", most.constant(15, 15, 0), 1);
            due("constant(15, 15, 15)", most.constant(15, 15, 15), 0);
        });

        says("Promise 12: NONE if nothing is built", () -> {
            dueWhenEmpty("constant(c, 0, 0)", (x, c) -> x.constant(c, 0, 0), NONE);
            dueWhenEmpty("constant(0, c, 0)", (x, c) -> x.constant(0, c, 0), NONE);
            dueWhenEmpty("constant(0, 0, c)", (x, c) -> x.constant(0, 0, c), NONE);
        });
    }

    private static void promisesOfPlainNumbers() {
        says("Promise 13: 0 if nothing is built", () -> {
            dueWhenEmpty("exponent()", x -> x.exponent(), 0);
        });

        says("Promise 14: 0 if nothing is built", () -> {
            dueWhenEmpty("prime()", x -> x.prime(), 0);
        });

        says("Promise 15: 0 if nothing is built", () -> {
            dueWhenEmpty("root()", x -> x.root(), 0);
        });

        says("Promise 21: 0 if nothing is built", () -> {
            dueWhenEmpty("normals()", x -> x.normals(), 0);
        });
    }

    private static void promisesDegreeAndValue() {
        says("Promise 16: The degree of a row; 0 if there is none", () -> {
            due("the last of 16", built(A4_AND_FOUR).degree(15), 3);
            dueOfNone("degree", (x, r) -> x.degree(r), 0);
        });

        says("Promise 16: 0 if nothing is built", () -> {
            dueWhenEmpty("degree(r)", (x, r) -> x.degree(r), 0);
        });

        says("Promise 17: NONE if there is no such row", () -> {
            due("the last of 16", built(FOUR_EXCHANGES).value(15, 0), 1);
            dueOfNone("value(r, 0)", (x, r) -> x.value(r, 0), NONE);
        });

        says("Promise 17: NONE if there is no such class", () -> {
            due("the last of 16", built(FOUR_EXCHANGES).value(0, 15), 1);
            dueOfNone("value(0, c)", (x, c) -> x.value(0, c), NONE);
        });

        says("Promise 17: NONE if there is neither", () -> {
            dueOfNone("value(c, c)", (x, c) -> x.value(c, c), NONE);
        });

        says("Promise 17: NONE if nothing is built", () -> {
            dueWhenEmpty("value(r, 0)", (x, r) -> x.value(r, 0), NONE);
            dueWhenEmpty("value(0, c)", (x, c) -> x.value(0, c), NONE);
        });
    }

    private static void promiseMultiplicity() {
        says("Promise 18: NONE if there is no such row", () -> {
            dueOfNone("multiplicity(r, 0, 0)", (x, r) -> x.multiplicity(r, 0, 0), NONE);
        });

        says("Promise 18: NONE if there is no such class", () -> {
            dueOfNone("multiplicity(0, c, 0)", (x, c) -> x.multiplicity(0, c, 0), NONE);
        });

        says("Promise 18: NONE if there is neither, or no k", () -> {
            dueOfNone("multiplicity(c, c, 0)", (x, c) -> x.multiplicity(c, c, 0), NONE);
            dueOfNone("multiplicity(c, 0, -1)", (x, c) -> x.multiplicity(c, 0, -1), NONE);
            dueOfNone("multiplicity(c, c, c)", (x, c) -> x.multiplicity(c, c, c), NONE);
        });

        says("Promise 18: NONE if nothing is built", () -> {
            dueWhenEmpty("multiplicity(r, 0, 0)", (x, r) -> x.multiplicity(r, 0, 0), NONE);
            dueWhenEmpty("multiplicity(0, c, 0)", (x, c) -> x.multiplicity(0, c, 0), NONE);
            dueWhenEmpty("multiplicity(0, 0, k)", (x, k) -> x.multiplicity(0, 0, k), NONE);
        });
    }

    private static void promiseMultiplicityRange() {
        says("Promise 18: NONE if k is not 0 .. e - 1: the ends of the range", () -> {
            ClassCharacters turn = built(TURN_OF_THREE);
            due("multiplicity(0, 1, 0)", turn.multiplicity(0, 1, 0), 1);
            due("multiplicity(1, 1, 0)", turn.multiplicity(1, 1, 0), 0);
            due("multiplicity(1, 2, 2)", turn.multiplicity(1, 2, 2), 1);
            due("multiplicity(2, 1, 2)", turn.multiplicity(2, 1, 2), 1);
            due("multiplicity(0, 0, 0) of one", built(NO_GENERATORS).multiplicity(0, 0, 0), 1);
            due("multiplicity(6, 1, 30) of S5", built(S5).multiplicity(6, 1, 30), 3);
            due("multiplicity(6, 1, 59) of S5", built(S5).multiplicity(6, 1, 59), 0);
        });

        says("Promise 18: NONE if k is not 0 .. e - 1: outside the range", () -> {
            for (String[] group : new String[][] {NO_GENERATORS, ONE_EXCHANGE, TURN_OF_THREE, S3, S5}) {
                int e = built(group).exponent();
                for (int k : new int[] {-1, -e, e, e + 1, 2 * e, 60, 61, 1000, MIN, MIN + e, MAX}) {
                    due("multiplicity(0, 0, " + k + "), e = " + e, built(group).multiplicity(0, 0, k), NONE);
                    due("the same, S5 before", rebuilt(S5, group).multiplicity(0, 0, k), NONE);
                }
            }
        });
    }

    private static void promisesIndicatorAndKernel() {
        says("Promise 19: The indicator of a row (0, 1 or -1); 0 if there is none", () -> {
            due("the last of 16", built(FOUR_EXCHANGES).indicator(15), 1);
            dueOfNone("indicator", (x, r) -> x.indicator(r), 0);
        });

        says("Promise 19: 0 if nothing is built", () -> {
            dueWhenEmpty("indicator(r)", (x, r) -> x.indicator(r), 0);
        });

        says("Promise 20: the sum of 2^c over its classes c; 0 if there is none", () -> {
            due("the first of 16", built(FOUR_EXCHANGES).kernel(0), 65535);
            due("the last of a turn of seven", built(TURN_OF_SEVEN).kernel(6), 1);
            dueOfNone("kernel", (x, r) -> x.kernel(r), 0);
        });

        says("Promise 20: 0 if nothing is built", () -> {
            dueWhenEmpty("kernel(r)", (x, r) -> x.kernel(r), 0);
        });
    }
}
