import java.util.ArrayList;
import java.util.HashSet;
import java.util.List;
import java.util.Random;
import java.util.Set;
import java.util.TreeSet;

/**
 * Checks every answer against the document's own words, worked out here in the slowest and plainest
 * way: for one group of each kind that eight points have with at most 120 elements, with the points
 * renamed too, and for long mixed runs of right and wrong calls.
 */
public final class WordsTests {
    private static int wrong = 0;
    private static int checked = 0;

    /**
     * Generators of one subgroup of each conjugacy class of the symmetric group of eight points with
     * at most 120 elements: 258 of them, with a semicolon between two.
     */
    private static final String GROUPS =
        "; 342398; 342510; 342846; 343854; 346045; 358190; 371518; 371644; 403438; 379834; 575421; " +
        "581084; 630574; 1536668; 2206526; 2207534; 2238446; 2336558; 2649829; 2722748; 14722862; 342517 " +
        "342447; 342846 342398; 343357 342951; 342398 343532; 346031 346045; 355299 350119; 371511 " +
        "342398; 371644 343973; 372645 372652; 378301 342398; 436023 379582; 468972 372645; 470827 " +
        "503083; 575358 575421; 579390 350014; 629692 629559; 829822 831397; 639919 923125; 342398 " +
        "2206526; 2207023 2207534; 342839 2207212; 403326 2177455; 2271038 414974; 2344853 455987; 350455 " +
        "2223060; 342972 2723119; 2723301 342839; 2736629 2736559; 7504567 9704702; 14837354 2870168; " +
        "342510 342951; 342461 346101; 343343 347067; 342510 372645; 371700 372092; 403438 378350; 515228 " +
        "490140; 490147 457884; 575477 575358; 579516 588021; 354284 576254; 831334 342461; 1091503 " +
        "639870; 2206127 343861; 2206631 2207100; 2238397 2213239; 2238383 378350; 2325148 342461; " +
        "2318050 2325204; 4988774 2723749; 6336428 343861; 343980 343525; 356139 342846; 359156 355299; " +
        "371511 371070; 342846 371119; 372652 372197; 469980 420567; 425117 440790; 384930 380394; 444094 " +
        "342846; 417235 489132; 455966 342846; 456883 408254; 372652 456092; 343854 476637; 371644 " +
        "476637; 350462 576254; 579838 342846; 351988 585515; 583471 342846; 829934 630063; 630245 " +
        "831404; 1454782 717619; 1242206 359219; 1237691 1242227; 2206071 2206526; 2206519 2206078; " +
        "343525 2206127; 2207205 342846; 2274615 2239230; 2250423 2181886; 2324140 350140; 354781 " +
        "2348948; 419167 2215829; 2250430 342846; 342846 2278647; 517797 2177854; 2323692 446355; 2254175 " +
        "2290974; 2274622 2194206; 2291100 2254301; 2256555 2206526; 2255547 2350243; 2643942 4245423; " +
        "343532 2644446; 2722622 6334839; 4987710 2722174; 342846 2722790; 6336428 342846; 6336421 " +
        "6335980; 6621566 10622654; 2249975 6564670; 3526530 10155033; 342846 14885605; 11788371 1141371; " +
        "13505989 3538080; 8645203 11002138; 8645210 8643411; 342846 9925146; 342846 11788378; 14570178 " +
        "16204993; 14140609 629181; 14570010 9925825; 14598682 9926273; 419671 456596; 350119 588518; " +
        "2206526 343854; 419293 2291478; 2254301 2256618; 342972 6334839; 2722293 343854; 15918273 " +
        "15918602; 15918728 9926280; 346094 926590; 1022294 1033130; 2238453 2241967; 2312058 2308565; " +
        "7410046 509621; 2341290 9241582; 16201738 12305930; 2181039 14599697; 356069 589155; 456596 " +
        "419293; 371518 572901; 371518 1139677; 1436113 417242; 2178862 2206197; 2178533 2207660; 2277044 " +
        "2239741; 2254301 2313899; 2722622 372652; 3064894 371518; 6822886 6852468; 2178988 6852398; " +
        "2177854 4988389; 12427660 16024988; 5256062 7669886; 1944929 5781965; 5521201 1683276; 5781965 " +
        "6131041; 5264126 7619255; 11330018 8974763; 436030 7643447; 2271038 11313463; 7838740 11297748; " +
        "4300660 6335980; 371644 6822389; 6622140 5345165; 16099377 10068807; 6822389 16147075; 1616636 " +
        "718452; 2292899 378301; 8718269 13695640; 378301 10291022; 5730529 378301; 403438 5759257; " +
        "8099077 5661656; 11408446 13158264; 14140994 12327322; 2206526 4988389; 13143788 8518230; " +
        "2206526 6999944; 5268445 9113195; 10441795 6336302; 371511 342398 342846; 415422 342846 443639; " +
        "346878 579383 345982; 355131 1454782 1242206; 2206071 2206526 342398; 2274622 371518 404215; " +
        "2278647 371063 2249982; 406910 2190139 456862; 4987703 342846 2722615; 2206519 11788819 371518; " +
        "2207212 342398 343532; 2206078 2280915 2278654; 4988389 2723308 6335973; 444094 342398 371511; " +
        "371518 1682233 444094; 342398 371511 2177847; 2275511 2239230 2217271; 371518 371511 2249982; " +
        "11145470 371518 5343870; 1725689 3851911 414974; 6822270 2177854 6822263; 371518 5408382 " +
        "7734398; 2206519 2206526 16361793; 14559937 2249975 16394945; 14599816 342398 2206526; 372645 " +
        "6852524 6852517; 13882960 13882946 6336428; 371119 407029 342510; 837109 829815 575421; 2181109 " +
        "371119 2242037; 2241967 403319 2241918; 2207205 2207660 2206071; 4988389 4988844 2722622; " +
        "16433690 2207205 9926280; 2206526 342846 2177406; 2177406 342846 6822270; 5016382 2177406 " +
        "2206526; 4988844 6823845 5017509; 6823796 6850935 5016893; 6822263 4987878 342846; 2178365 " +
        "343525 10440913; 2206071 2206526 2178988; 6823852 2178533 5017061; 372197 372652 4987262; " +
        "5015927 372652 372197; 4987262 9954497 2206071; 5017509 11788826 5234789; 2249975 14527240 " +
        "443639; 9780673 11788826 14571144; 829934 2952180 2637621; 6852524 2206071 342846; 6852524 " +
        "6852069 13882050; 342846 6336421 10155033; 11788826 16434824 14570689; 2177847 2206526 371518 " +
        "2206071; 371070 6822263 6822718 371063; 16434369 443646 16361800 16434824; 2206526 4987255 " +
        "4987703 342846; 343532 343525 6850942 2206519; 6851390 343980 343525 4987710; 371070 6823845 " +
        "11788371 371511 ";

    public static void main(String[] args) {
        List<int[]> groups = readGroups();
        due("groups in the list", groups.size(), 258);
        Random random = new Random(20261115);
        for (int[] generators : groups) {
            checkGroup(generators);
            checkGroup(renamed(generators, random));
            checkGroup(renamed(generators, random));
        }
        checkRandomGroups(random);
        for (int run = 0; run < 400; run++) {
            mixedRun(groups, random);
            reusedRun(groups, random);
        }
        System.out.println(checked + " answers checked against the words, " + wrong + " wrong");
        if (wrong != 0) {
            System.exit(1);
        }
    }

    private static void due(String call, long got, long want) {
        checked++;
        if (got != want) {
            wrong++;
            if (wrong <= 40) {
                System.out.println(call + " answered " + got + ", due is " + want);
            }
        }
    }

    private static List<int[]> readGroups() {
        List<int[]> groups = new ArrayList<>();
        for (String text : GROUPS.split(";")) {
            String trimmed = text.trim();
            String[] words = trimmed.isEmpty() ? new String[0] : trimmed.split(" +");
            int[] generators = new int[words.length];
            for (int g = 0; g < words.length; g++) {
                generators[g] = Integer.parseInt(words[g]);
            }
            groups.add(generators);
        }
        return groups;
    }

    /** The generators after a renaming of the points. */
    private static int[] renamed(int[] generators, Random random) {
        int[] naming = randomImages(random);
        int[] result = new int[generators.length];
        for (int g = 0; g < generators.length; g++) {
            int[] images = imagesOf(generators[g]);
            int[] other = new int[8];
            for (int x = 0; x < 8; x++) {
                other[naming[x]] = naming[images[x]];
            }
            result[g] = codeOf(other);
        }
        return result;
    }

    private static int[] randomImages(Random random) {
        int[] images = {0, 1, 2, 3, 4, 5, 6, 7};
        for (int k = 7; k > 0; k--) {
            int other = random.nextInt(k + 1);
            int kept = images[k];
            images[k] = images[other];
            images[other] = kept;
        }
        return images;
    }

    private static int[] imagesOf(int code) {
        int[] images = new int[8];
        int rest = code;
        for (int x = 7; x >= 0; x--) {
            images[x] = rest % 8;
            rest /= 8;
        }
        return images;
    }

    private static int codeOf(int[] images) {
        int code = 0;
        int weight = 1;
        for (int x = 7; x >= 0; x--) {
            code += images[x] * weight;
            weight *= 8;
        }
        return code;
    }

    private static int product(int x, int y) {
        int[] first = imagesOf(x);
        int[] second = imagesOf(y);
        int[] both = new int[8];
        for (int k = 0; k < 8; k++) {
            both[k] = second[first[k]];
        }
        return codeOf(both);
    }

    /** A built object, made anew before its 512 calls are used up. */
    private static final class Shown {
        private final int[] generators;
        private ClassCharacters object;
        private int calls = 1000;

        Shown(int[] generators) {
            this.generators = generators;
        }

        ClassCharacters get() {
            if (calls >= 500) {
                object = new ClassCharacters();
                for (int code : generators) {
                    object.add(code);
                }
                object.build();
                calls = generators.length + 1;
            }
            calls++;
            return object;
        }
    }

    private static void checkGroup(int[] generators) {
        Words words = new Words(generators);
        Shown shown = new Shown(generators);
        due("build()", shown.get().build(), words.outcome);
        if (words.outcome != ClassCharacters.FINE) {
            checkNothing(shown.get());
            return;
        }
        checkElements(words, shown);
        checkClasses(words, shown);
        checkNumbers(words, shown);
        int[][] table = checkRows(words, shown);
        checkMultiplicities(words, shown, table);
        checkKernels(words, shown, table);
    }

    private static void checkNothing(ClassCharacters x) {
        due("order()", x.order(), 0);
        due("classes()", x.classes(), 0);
        due("exponent()", x.exponent(), 0);
        due("prime()", x.prime(), 0);
        due("root()", x.root(), 0);
        due("normals()", x.normals(), 0);
        due("classOf(342391)", x.classOf(342391), -1);
        for (int k = -1; k <= 1; k++) {
            due("element", x.element(k), -1);
            due("size", x.size(k), 0);
            due("least", x.least(k), -1);
            due("power", x.power(k, 0), -1);
            due("constant", x.constant(k, 0, 0), -1);
            due("degree", x.degree(k), 0);
            due("value", x.value(k, 0), -1);
            due("multiplicity", x.multiplicity(k, 0, 0), -1);
            due("indicator", x.indicator(k), 0);
            due("kernel", x.kernel(k), 0);
        }
    }

    private static void checkElements(Words words, Shown shown) {
        int n = words.codes.length;
        due("order()", shown.get().order(), n);
        for (int k = 0; k < n; k++) {
            due("element", shown.get().element(k), words.codes[k]);
            due("classOf", shown.get().classOf(words.codes[k]), words.classAt[k]);
            int near = words.codes[k] + 7;
            due("classOf", shown.get().classOf(near), words.classOfCode(near));
        }
        due("element(n)", shown.get().element(n), -1);
        due("element(-1)", shown.get().element(-1), -1);
        due("element(min)", shown.get().element(Integer.MIN_VALUE), -1);
        due("classOf(-1)", shown.get().classOf(-1), -1);
        due("classOf(max)", shown.get().classOf(Integer.MAX_VALUE), -1);
    }

    private static void checkClasses(Words words, Shown shown) {
        int count = words.count;
        due("classes()", shown.get().classes(), count);
        for (int i = -1; i <= count; i++) {
            boolean there = i >= 0 && i < count;
            due("size", shown.get().size(i), there ? words.sizes[i] : 0);
            due("least", shown.get().least(i), there ? words.codes[words.leasts[i]] : -1);
            for (int m = -1; m <= 1001; m += m < 130 || m > 980 ? 1 : 43) {
                due("power", shown.get().power(i, m), there && m >= 0 && m <= 1000 ? words.power(i, m) : -1);
            }
            for (int j = -1; j <= count; j++) {
                for (int l = -1; l <= count; l++) {
                    boolean all = there && j >= 0 && j < count && l >= 0 && l < count;
                    due("constant", shown.get().constant(i, j, l), all ? words.constants[i][j][l] : -1);
                }
            }
        }
    }

    private static void checkNumbers(Words words, Shown shown) {
        due("exponent()", shown.get().exponent(), words.exponent);
        due("prime()", shown.get().prime(), words.prime);
        due("root()", shown.get().root(), words.root);
    }

    /**
     * There are as many central maps as classes: so rows that come from central maps and are in
     * strictly rising order are all of them.
     */
    private static int[][] checkRows(Words words, Shown shown) {
        int p = words.prime;
        int[][] table = new int[words.count][words.count];
        int before = 0;
        for (int r = 0; r < words.count; r++) {
            int d = shown.get().degree(r);
            due("degree in range", d >= 1 && d <= (p - 1) / 2 ? 1 : 0, 1);
            int[] map = new int[words.count];
            for (int i = 0; i < words.count; i++) {
                int v = shown.get().value(r, i);
                due("value in range", v >= 0 && v < p ? 1 : 0, 1);
                table[r][i] = v;
                map[i] = words.over(v * words.sizes[i], d);
            }
            due("value at the identity", table[r][0], d);
            due("central", words.isCentral(map) ? 1 : 0, 1);
            due("d d s", d * d * words.sumOf(map) % p, words.codes.length % p);
            if (r > 0) {
                due("order of rows", before < d || before == d && rises(table[r - 1], table[r]) ? 1 : 0, 1);
            }
            before = d;
            due("value(r, -1)", shown.get().value(r, -1), -1);
            due("value(r, classes)", shown.get().value(r, words.count), -1);
        }
        for (int r : new int[] {-1, words.count, Integer.MAX_VALUE, Integer.MIN_VALUE}) {
            due("degree of none", shown.get().degree(r), 0);
            due("value of none", shown.get().value(r, 0), -1);
            due("indicator of none", shown.get().indicator(r), 0);
            due("kernel of none", shown.get().kernel(r), 0);
            due("multiplicity of none", shown.get().multiplicity(r, 0, 0), -1);
            due("multiplicity at none", shown.get().multiplicity(0, r, 0), -1);
        }
        return table;
    }

    private static boolean rises(int[] a, int[] b) {
        for (int i = 1; i < a.length; i++) {
            if (a[i] != b[i]) {
                return a[i] < b[i];
            }
        }
        return false;
    }

    private static void checkMultiplicities(Words words, Shown shown, int[][] table) {
        for (int r = 0; r < words.count; r++) {
            for (int i = 0; i < words.count; i++) {
                int total = 0;
                for (int k = 0; k < words.exponent; k++) {
                    int want = words.multiplicity(table[r], i, k);
                    due("multiplicity", shown.get().multiplicity(r, i, k), want);
                    total += want;
                }
                due("roots in all", total, table[r][0]);
                due("multiplicity(-1)", shown.get().multiplicity(r, i, -1), -1);
                due("multiplicity(e)", shown.get().multiplicity(r, i, words.exponent), -1);
            }
        }
    }

    private static void checkKernels(Words words, Shown shown, int[][] table) {
        int[] kernels = new int[words.count];
        for (int r = 0; r < words.count; r++) {
            int sum = 0;
            for (int i = 0; i < words.count; i++) {
                sum += words.sizes[i] * table[r][words.power(i, 2)];
                kernels[r] += table[r][i] == table[r][0] ? 1 << i : 0;
            }
            int indicator = words.over(sum, words.codes.length);
            due("indicator", shown.get().indicator(r), indicator == words.prime - 1 ? -1 : indicator);
            due("kernel", shown.get().kernel(r), kernels[r]);
        }
        Set<Integer> normals = new HashSet<>();
        for (int some = 1; some < 1 << words.count; some++) {
            int common = -1;
            for (int r = 0; r < words.count; r++) {
                common &= (some >> r & 1) == 1 ? kernels[r] : -1;
            }
            normals.add(common);
        }
        due("normals()", shown.get().normals(), normals.size());
    }

    private static void checkRandomGroups(Random random) {
        for (int k = 0; k < 300; k++) {
            int[] generators = new int[1 + random.nextInt(4)];
            for (int g = 0; g < generators.length; g++) {
                generators[g] = codeOf(randomImages(random));
            }
            checkGroup(generators);
        }
    }

    /** A run of at most 512 mixed calls; a small model tells what is built. */
    private static void mixedRun(List<int[]> groups, Random random) {
        ClassCharacters x = new ClassCharacters();
        List<Integer> generators = new ArrayList<>();
        Words built = null;
        for (int call = 0; call < 60; call++) {
            int kind = random.nextInt(10);
            if (kind < 4) {
                int code = randomCode(groups, random);
                boolean taken = isPermutation(code) && generators.size() < 4;
                due("add", x.add(code) ? 1 : 0, taken ? 1 : 0);
                if (taken) {
                    generators.add(code);
                    built = null;
                }
            } else if (kind == 4) {
                x.clear();
                generators.clear();
                built = null;
            } else if (kind < 8) {
                Words words = new Words(toArray(generators));
                due("build()", x.build(), words.outcome);
                built = words.outcome == ClassCharacters.FINE ? words : null;
            }
            look(x, built, random);
        }
    }

    /** An object that has built other groups before answers what a new one does: at most 512 calls. */
    private static void reusedRun(List<int[]> groups, Random random) {
        ClassCharacters used = new ClassCharacters();
        for (int round = 0; round < 8; round++) {
            int[] generators = renamed(groups.get(random.nextInt(groups.size())), random);
            ClassCharacters fresh = new ClassCharacters();
            used.clear();
            for (int code : generators) {
                due("add again", used.add(code) ? 1 : 0, fresh.add(code) ? 1 : 0);
            }
            due("build() again", used.build(), fresh.build());
            for (int k = 0; k < 20; k++) {
                compare(used, fresh, random);
            }
            due("normals() again", used.normals(), fresh.normals());
            due("prime() again", used.prime(), fresh.prime());
            due("root() again", used.root(), fresh.root());
        }
    }

    /** The classes and rows beyond the last of most groups are asked for too. */
    private static void compare(ClassCharacters used, ClassCharacters fresh, Random random) {
        int a = random.nextInt(17);
        int b = random.nextInt(17);
        int c = random.nextInt(17);
        int k = random.nextInt(121);
        switch (random.nextInt(4)) {
            case 0 -> {
                due("element again", used.element(k), fresh.element(k));
                due("power again", used.power(a, k * 8), fresh.power(a, k * 8));
            }
            case 1 -> {
                due("constant again", used.constant(a, b, c), fresh.constant(a, b, c));
                due("indicator again", used.indicator(a), fresh.indicator(a));
            }
            case 2 -> {
                due("value again", used.value(a, b), fresh.value(a, b));
                due("kernel again", used.kernel(a), fresh.kernel(a));
            }
            default -> {
                due("multiplicity again", used.multiplicity(a, b, c), fresh.multiplicity(a, b, c));
                due("degree again", used.degree(a), fresh.degree(a));
            }
        }
    }

    private static int[] toArray(List<Integer> list) {
        int[] array = new int[list.size()];
        for (int k = 0; k < array.length; k++) {
            array[k] = list.get(k);
        }
        return array;
    }

    private static int randomCode(List<int[]> groups, Random random) {
        int kind = random.nextInt(6);
        if (kind == 0) {
            return random.nextInt();
        }
        if (kind == 1) {
            return random.nextInt(1 << 24);
        }
        if (kind == 2) {
            return codeOf(randomImages(random)) + (random.nextBoolean() ? 1 << 24 : 0);
        }
        int[] group = groups.get(random.nextInt(groups.size()));
        return group.length == 0 ? 342391 : group[random.nextInt(group.length)];
    }

    private static boolean isPermutation(int code) {
        if (code < 0 || code >= 16777216) {
            return false;
        }
        Set<Integer> images = new HashSet<>();
        for (int image : imagesOf(code)) {
            images.add(image);
        }
        return images.size() == 8;
    }

    private static void look(ClassCharacters x, Words built, Random random) {
        due("order()", x.order(), built == null ? 0 : built.codes.length);
        due("classes()", x.classes(), built == null ? 0 : built.count);
        due("exponent()", x.exponent(), built == null ? 0 : built.exponent);
        int c = random.nextInt(20) - 2;
        boolean there = built != null && c >= 0 && c < built.count;
        due("size", x.size(c), there ? built.sizes[c] : 0);
        due("least", x.least(c), there ? built.codes[built.leasts[c]] : -1);
        due("degree of a row", x.degree(c) > 0 ? 1 : 0, there ? 1 : 0);
        due("kernel of a row", x.kernel(c) & 1, there ? 1 : 0);
    }

    /** What the document says of a group, word by word. */
    private static final class Words {
        private int outcome;
        private int[] codes;
        private int[][] products;
        private int[] classAt;
        private int count = 0;
        private final int[] sizes = new int[120];
        private final int[] leasts = new int[120];
        private int[][][] constants;
        private int exponent;
        private int prime;
        private int root;

        Words(int[] generators) {
            TreeSet<Integer> found = new TreeSet<>();
            List<Integer> list = new ArrayList<>();
            found.add(342391);
            list.add(342391);
            for (int next = 0; next < list.size() && list.size() <= 120; next++) {
                for (int g : generators) {
                    int code = product(list.get(next), g);
                    if (found.add(code)) {
                        list.add(code);
                    }
                }
            }
            outcome = ClassCharacters.TOO_LARGE;
            if (found.size() <= 120) {
                codes = toArray(new ArrayList<>(found));
                multiply();
                findClasses();
                outcome = count > 16 ? ClassCharacters.TOO_MANY : ClassCharacters.FINE;
            }
            if (outcome == ClassCharacters.FINE) {
                countPairs();
                findNumbers();
            }
        }

        private int indexOf(int code) {
            for (int k = 0; k < codes.length; k++) {
                if (codes[k] == code) {
                    return k;
                }
            }
            return -1;
        }

        private void multiply() {
            products = new int[codes.length][codes.length];
            for (int x = 0; x < codes.length; x++) {
                for (int y = 0; y < codes.length; y++) {
                    products[x][y] = indexOf(product(codes[x], codes[y]));
                }
            }
        }

        private void findClasses() {
            int n = codes.length;
            classAt = new int[n];
            for (int y = 0; y < n; y++) {
                classAt[y] = -1;
                for (int x = 0; x < y && classAt[y] < 0; x++) {
                    for (int g = 0; g < n && classAt[y] < 0; g++) {
                        if (products[g][y] == products[x][g]) {
                            classAt[y] = classAt[x];
                        }
                    }
                }
                if (classAt[y] < 0) {
                    leasts[count] = y;
                    classAt[y] = count++;
                }
                sizes[classAt[y]]++;
            }
        }

        private void countPairs() {
            constants = new int[count][count][count];
            for (int x = 0; x < codes.length; x++) {
                for (int y = 0; y < codes.length; y++) {
                    for (int l = 0; l < count; l++) {
                        if (products[x][y] == leasts[l]) {
                            constants[classAt[x]][classAt[y]][l]++;
                        }
                    }
                }
            }
        }

        int classOfCode(int code) {
            int k = indexOf(code);
            return k < 0 ? -1 : classAt[k];
        }

        private int elementPower(int x, int m) {
            int result = 0;
            for (int k = 0; k < m; k++) {
                result = products[result][x];
            }
            return result;
        }

        /** By the class's last element, as all of its elements must tell the same. */
        int power(int c, int m) {
            int last = 0;
            for (int x = 0; x < codes.length; x++) {
                last = classAt[x] == c ? x : last;
            }
            return classAt[elementPower(last, m)];
        }

        private int inverse(int c) {
            for (int y = 0; y < codes.length; y++) {
                if (products[leasts[c]][y] == 0) {
                    return classAt[y];
                }
            }
            return -1;
        }

        private void findNumbers() {
            exponent = 1;
            while (!isExponent(exponent)) {
                exponent++;
            }
            prime = 2;
            while (!isPrime(prime) || prime * prime <= 4 * codes.length || (prime - 1) % exponent != 0) {
                prime++;
            }
            root = 1;
            while (!isRoot(root)) {
                root++;
            }
        }

        private boolean isExponent(int m) {
            for (int x = 0; x < codes.length; x++) {
                if (elementPower(x, m) != 0) {
                    return false;
                }
            }
            return true;
        }

        private static boolean isPrime(int number) {
            for (int factor = 2; factor < number; factor++) {
                if (number % factor == 0) {
                    return false;
                }
            }
            return number > 1;
        }

        private int raised(int z, int m) {
            int result = 1;
            for (int k = 0; k < m; k++) {
                result = result * z % prime;
            }
            return result;
        }

        private boolean isRoot(int z) {
            for (int m = 1; m < exponent; m++) {
                if (raised(z, m) == 1) {
                    return false;
                }
            }
            return raised(z, exponent) == 1;
        }

        int over(int a, int b) {
            for (int q = 0; q < prime; q++) {
                if ((q * b - a) % prime == 0) {
                    return q;
                }
            }
            return -1;
        }

        boolean isCentral(int[] map) {
            boolean central = map[0] == 1;
            for (int i = 0; i < count; i++) {
                for (int j = 0; j < count; j++) {
                    int sum = 0;
                    for (int l = 0; l < count; l++) {
                        sum += constants[i][j][l] * map[l];
                    }
                    central &= (map[i] * map[j] - sum) % prime == 0;
                }
            }
            return central;
        }

        int sumOf(int[] map) {
            int sum = 0;
            for (int i = 0; i < count; i++) {
                sum += over(map[i] * map[inverse(i)], sizes[i]);
            }
            return sum % prime;
        }

        int multiplicity(int[] row, int c, int k) {
            int sum = 0;
            for (int t = 0; t < exponent; t++) {
                sum += over(row[power(c, t)], raised(root, k * t % exponent));
            }
            return over(sum, exponent);
        }
    }
}
