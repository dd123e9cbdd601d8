import java.math.BigInteger;
import java.util.ArrayList;
import java.util.List;
import java.util.TreeSet;
import java.util.regex.Pattern;

/** The document told a second time, slowly and with the Java library, for runs by chance to be compared with. */
final class Model {
    private static final long NO = -4611686018427387904L;

    /** What a recipe's text tells. */
    private record Recipe(int kind, int letters, int clauses, int wide, int[] weights) {
        int all() {
            int all = 0;
            for (boolean[] way : ways()) {
                all += weights[trueOf(way)];
            }
            return all;
        }

        /** Every way that literals can be true, by how many are, then as the document counts ways. */
        List<boolean[]> ways() {
            List<boolean[]> ways = new ArrayList<>();
            for (int is = 0; is <= wide; is++) {
                int n = is == 0 || is == wide ? 1 : wide;
                for (int w = 0; w < n; w++) {
                    boolean[] way = new boolean[wide];
                    for (int i = 0; i < wide; i++) {
                        way[i] = is == wide || is > 0 && (is == 1 ? i == w : i != w);
                    }
                    ways.add(way);
                }
            }
            return ways;
        }
    }

    private record Clause(TreeSet<Integer> plain, TreeSet<Integer> against) {
        int wide() {
            return plain.size() + against.size();
        }

        int is(boolean[] row) {
            int is = 0;
            for (int l : plain) {
                is += row[l] ? 1 : 0;
            }
            for (int l : against) {
                is += row[l] ? 0 : 1;
            }
            return is;
        }
    }

    private record Task(int kind, int letters, List<Clause> clauses, int hidden, int recipe, int seed) {
        boolean clauseHolds(int c, boolean[] row) {
            return holds(kind, clauses.get(c).is(row), clauses.get(c).wide());
        }

        int firstBroken(int row) {
            for (int c = 0; c < clauses.size(); c++) {
                if (!clauseHolds(c, truths(row, letters))) {
                    return c;
                }
            }
            return -1;
        }

        List<Integer> solving() {
            List<Integer> solving = new ArrayList<>();
            for (int row = 0; row < 1 << letters; row++) {
                if (firstBroken(row) < 0) {
                    solving.add(row);
                }
            }
            return solving;
        }

        int worth(int row) {
            int worth = 0;
            for (Clause c : clauses) {
                worth += Model.worth(kind, c.is(truths(row, letters)), c.wide());
            }
            return worth;
        }

        int excess(int l) {
            int excess = 0;
            for (Clause c : clauses) {
                excess += c.plain.contains(l) ? 1 : c.against.contains(l) ? -1 : 0;
            }
            return excess;
        }

        int countsRow() {
            int row = 0;
            for (int l = 0; l < letters; l++) {
                row += excess(l) > 0 ? 1 << l : 0;
            }
            return row;
        }
    }

    private record Row(int sort, int[] cells) {
    }

    private static final class Claim {
        int task, steps, state = 0, finder = -1;
    }

    /** What a finder found (-1: nothing) in how many steps. */
    private static final class Found {
        int row = -1, steps = 0;
    }

    private StringBuilder tape = new StringBuilder();
    private final List<Recipe> recipes = new ArrayList<>();
    private List<Task> tasks = new ArrayList<>();
    private List<Claim> claims = new ArrayList<>();
    private final Row[] sheets = new Row[4];
    private int image = -1;

    static boolean holds(int kind, int is, int wide) {
        return switch (kind) {
            case 0 -> is > 0;
            case 1 -> holds(0, is, wide) && (is < wide || wide == 1);
            case 2 -> is == 1 || is == 3;
            case 3 -> holds(1, is, wide) && is == 1;
            case 4 -> !holds(2, is, wide);
            default -> holds(0, is, wide) && is + is > wide;
        };
    }

    static int worth(int kind, int is, int wide) {
        int base = holds(kind, is, wide) ? 3 : 0;
        return kind == 3 && is == 0 ? base - 1 : kind == 5 ? base + is : base;
    }

    private static boolean[] truths(int row, int letters) {
        boolean[] truths = new boolean[letters];
        for (int l = 0; l < letters; l++) {
            truths[l] = (row / (1 << l)) % 2 == 1;
        }
        return truths;
    }

    int feed(long w, int n) {
        if (n < 1 || n > 8) {
            return -2;
        }
        if (tape.length() + n > 80) {
            return -4;
        }
        byte[] all = java.nio.ByteBuffer.allocate(8).putLong(w).array();
        for (int i = 8 - n; i < 8; i++) {
            tape.append((char) (all[i] & 255));
        }
        return tape.length();
    }

    int recipe() {
        if (recipes.size() >= 6) {
            return -4;
        }
        String text = tape.toString();
        tape = new StringBuilder();
        int fault = fault(text);
        if (fault >= 0) {
            return -100 - fault;
        }
        String[] words = text.split(" +");
        int[] weights = new int[words.length - 4];
        for (int i = 4; i < words.length; i++) {
            weights[i - 4] = Integer.parseInt(words[i]);
        }
        recipes.add(new Recipe(named(words[0]), named(words[1]), named(words[2]), named(words[3]), weights));
        return recipes.size() - 1;
    }

    private static int named(String word) {
        return Integer.parseInt(word.substring(1));
    }

    /** By shapes: the longest start of the text that some text of that shape has, unless a number is wrong in it. */
    private static int fault(String text) {
        String[] shape = {"k", "[0-9]{1,2}", " +", "n", "[0-9]{1,2}", " +", "c", "[0-9]{1,2}", " +", "w", "[0-9]{1,2}"};
        List<String> parts = new ArrayList<>(List.of(shape));
        int[] told = new int[30];
        int at = 0, numbers = 0, wide = 0;
        boolean any = false;
        for (int p = 0; p < parts.size(); p++) {
            java.util.regex.Matcher m = Pattern.compile(parts.get(p)).matcher(text).region(at, text.length());
            if (!m.lookingAt()) {
                return at;
            }
            if (parts.get(p).startsWith("[")) {
                int value = Integer.parseInt(m.group());
                told[numbers] = value;
                if (!allowed(numbers, value, told)) {
                    return at;
                }
                any |= numbers >= 4 && value > 0;
                if (numbers == 3) {
                    wide = value;
                    for (int i = 0; i <= wide; i++) {
                        parts.add(" +");
                        parts.add("[0-9]{1,2}");
                    }
                }
                numbers++;
            }
            at = m.end();
        }
        return at < text.length() ? at : any ? -1 : at;
    }

    private static boolean allowed(int number, int value, int[] told) {
        return switch (number) {
            case 0 -> value <= 5;
            case 1 -> value >= 1 && value <= 10;
            case 2 -> value <= 24;
            case 3 -> value >= 1 && value <= 3 && value <= told[1];
            default -> value == 0 || holds(told[0], number - 4, told[3]);
        };
    }

    int recipeTold(int r, int what) {
        if (r < 0 || r >= recipes.size()) {
            return -5;
        }
        Recipe recipe = recipes.get(r);
        if (what < 0 || what > 4 + recipe.wide) {
            return -7;
        }
        return what == 0 ? recipe.kind : what == 1 ? recipe.letters : what == 2 ? recipe.clauses
            : what == 3 ? recipe.wide : recipe.weights[what - 4];
    }

    /** The draws, kept in numbers of any size. */
    private static final class Draws {
        BigInteger lot;

        int draw(int n) {
            lot = lot.multiply(BigInteger.valueOf(48271)).mod(BigInteger.valueOf(2147483647));
            return lot.divide(BigInteger.valueOf(16)).mod(BigInteger.valueOf(n)).intValue();
        }
    }

    private Task made(int r, int seed) {
        Recipe recipe = recipes.get(r);
        Draws draws = new Draws();
        draws.lot = BigInteger.valueOf(seed).add(BigInteger.ONE);
        int hidden = 0;
        for (int l = 0; l < recipe.letters; l++) {
            hidden += draws.draw(2) == 1 ? 1 << l : 0;
        }
        List<Clause> clauses = new ArrayList<>();
        for (int c = 0; c < recipe.clauses; c++) {
            List<Integer> free = new ArrayList<>();
            for (int l = 0; l < recipe.letters; l++) {
                free.add(l);
            }
            TreeSet<Integer> letters = new TreeSet<>();
            while (letters.size() < recipe.wide) {
                letters.add(free.remove(draws.draw(free.size())));
            }
            clauses.add(clause(recipe, new ArrayList<>(letters), hidden, draws.draw(recipe.all())));
        }
        return new Task(recipe.kind, recipe.letters, clauses, hidden, r, seed);
    }

    private static Clause clause(Recipe recipe, List<Integer> letters, int hidden, int draw) {
        List<boolean[]> slots = new ArrayList<>();
        for (boolean[] way : recipe.ways()) {
            for (int i = 0; i < recipe.weights[trueOf(way)]; i++) {
                slots.add(way);
            }
        }
        boolean[] way = slots.get(draw);
        Clause clause = new Clause(new TreeSet<>(), new TreeSet<>());
        for (int i = 0; i < letters.size(); i++) {
            boolean isTrue = truths(hidden, recipe.letters)[letters.get(i)];
            (isTrue == way[i] ? clause.plain : clause.against).add(letters.get(i));
        }
        return clause;
    }

    int make(int recipe, int seed) {
        if (recipe < 0 || recipe >= recipes.size()) {
            return -1;
        }
        return seed < 0 || seed > 99999 ? -2 : kept(made(recipe, seed));
    }

    private int kept(Task task) {
        if (tasks.size() >= 8) {
            return -4;
        }
        tasks.add(task);
        return tasks.size() - 1;
    }

    int wild(int kind, int letters, int sheet) {
        if (sheet < 0 || sheet > 3) {
            return -1;
        }
        if (kind < 0 || kind > 5 || letters < 1 || letters > 10) {
            return -2;
        }
        if (sheets[sheet] == null) {
            return -11;
        }
        int size = sheets[sheet].cells.length;
        List<Clause> clauses = new ArrayList<>();
        for (int i = 0; i < size; i += 2) {
            if (i + 1 == size) {
                return -2;
            }
            int plain = number(sheet, i), against = number(sheet, i + 1);
            if (plain < 0 || against < 0 || plain >= 1 << letters || against >= 1 << letters || (plain & against) > 0) {
                return -2;
            }
            Clause clause = new Clause(bits(plain), bits(against));
            if (clause.wide() < 1 || clause.wide() > 3) {
                return -2;
            }
            clauses.add(clause);
        }
        return kept(new Task(kind, letters, clauses, -1, -1, -1));
    }

    private int number(int s, int i) {
        return sheets[s].cells[i];
    }

    private static TreeSet<Integer> bits(int bits) {
        TreeSet<Integer> set = new TreeSet<>();
        for (int l = 0; l < 31; l++) {
            if ((bits & 1 << l) != 0) {
                set.add(l);
            }
        }
        return set;
    }

    private static int bits(TreeSet<Integer> set) {
        int bits = 0;
        for (int l : set) {
            bits += 1 << l;
        }
        return bits;
    }

    private boolean noTask(int t) {
        return t < 0 || t >= tasks.size();
    }

    int taskTold(int t, int what) {
        if (noTask(t)) {
            return -5;
        }
        Task task = tasks.get(t);
        int[] told = {task.kind, task.letters, task.clauses.size(), task.hidden, task.recipe, task.seed};
        return what < 0 || what > 5 ? -7 : told[what];
    }

    int clauseTold(int t, int c, int what) {
        if (noTask(t) || c < 0 || c >= tasks.get(t).clauses.size()) {
            return -5;
        }
        Clause clause = tasks.get(t).clauses.get(c);
        return what == 0 ? bits(clause.plain) : what == 1 ? bits(clause.against) : -7;
    }

    int solves(int t, int answer) {
        if (noTask(t)) {
            return -5;
        }
        return answer < 0 || answer >= 1 << tasks.get(t).letters ? -2 : tasks.get(t).firstBroken(answer);
    }

    int answers(int t, int fixed, int as) {
        if (noTask(t)) {
            return -5;
        }
        if (fixed < 0 || fixed >= 1 << tasks.get(t).letters || (fixed | as) != fixed) {
            return -2;
        }
        return (int) tasks.get(t).solving().stream().filter(row -> (row & fixed) == as).count();
    }

    int answer(int t, int i) {
        if (noTask(t)) {
            return -5;
        }
        List<Integer> solving = tasks.get(t).solving();
        return i < 0 || i >= solving.size() ? -1 : solving.get(i);
    }

    int nearest(int t, int row) {
        if (noTask(t)) {
            return -5;
        }
        if (row < 0 || row >= 1 << tasks.get(t).letters) {
            return -2;
        }
        return tasks.get(t).solving().stream()
            .min(java.util.Comparator.comparingInt(other -> 2048 * Integer.bitCount(other ^ row) + other)).orElse(-1);
    }

    int hint(int t) {
        if (noTask(t)) {
            return -5;
        }
        int best = -1, fewest = 5000;
        for (int h = 0; h < 2 * tasks.get(t).letters; h++) {
            int left = answers(t, 1 << h / 2, (h & 1) << h / 2);
            if (left > 0 && left < fewest) {
                best = h;
                fewest = left;
            }
        }
        return best;
    }

    int needed(int t) {
        if (noTask(t)) {
            return -5;
        }
        Task task = tasks.get(t);
        int needed = 0, all = task.solving().size();
        for (int c = 0; c < task.clauses.size(); c++) {
            List<Clause> others = new ArrayList<>(task.clauses);
            others.remove(c);
            if (new Task(task.kind, task.letters, others, -1, -1, -1).solving().size() > all) {
                needed += 1 << c;
            }
        }
        return needed;
    }

    int lean(int t, int l) {
        if (noTask(t) || l < 0 || l >= tasks.get(t).letters) {
            return -1000;
        }
        Task task = tasks.get(t);
        return task.hidden >= 0 && !truths(task.hidden, task.letters)[l] ? -task.excess(l) : task.excess(l);
    }

    private static int trueOf(boolean[] way) {
        int is = 0;
        for (boolean one : way) {
            is += one ? 1 : 0;
        }
        return is;
    }

    private static long part(long above, long below, int part) {
        if (above == 0) {
            return part;
        }
        long shared = BigInteger.valueOf(above).gcd(BigInteger.valueOf(below)).longValue();
        return part == 0 ? above / shared : below / shared;
    }

    private static long leaning(Recipe recipe) {
        long above = 0;
        for (boolean[] way : recipe.ways()) {
            for (boolean one : way) {
                above += recipe.weights[trueOf(way)] * (one ? 1 : -1);
            }
        }
        return above;
    }

    long leans(int r, int part) {
        if (r < 0 || r >= recipes.size() || part < 0 || part > 1) {
            return NO;
        }
        Recipe recipe = recipes.get(r);
        return part(leaning(recipe), (long) recipe.all() * recipe.wide, part);
    }

    long pairs(int r, int part) {
        if (r < 0 || r >= recipes.size() || part < 0 || part > 1) {
            return NO;
        }
        Recipe recipe = recipes.get(r);
        long above = 0, below = 0;
        for (boolean[] way : recipe.ways()) {
            for (int i = 0; i < way.length; i++) {
                for (int j = 0; j < i; j++) {
                    above += recipe.weights[trueOf(way)] * (way[i] == way[j] ? 1 : -1);
                    below += recipe.weights[trueOf(way)];
                }
            }
        }
        return part(above, below, part);
    }

    int balance(int r) {
        if (r < 0 || r >= recipes.size()) {
            return -5;
        }
        Recipe recipe = recipes.get(r);
        for (int change = 0; change < 100; change++) {
            for (int is = 0; is <= recipe.wide; is++) {
                for (int weight : new int[] {recipe.weights[is] - change, recipe.weights[is] + change}) {
                    int[] weights = recipe.weights.clone();
                    weights[is] = weight;
                    Recipe other = new Recipe(recipe.kind, 10, 0, recipe.wide, weights);
                    boolean may = weight >= 0 && weight <= 99 && holds(recipe.kind, is, recipe.wide);
                    if (may && leaning(other) == 0 && other.all() != 0) {
                        return 100 * is + weight;
                    }
                }
            }
        }
        return -1;
    }

    private static Found seek(Task task, int finder, int limit) {
        Found found = new Found();
        if (finder == 3) {
            search(task, new boolean[task.letters], 0, limit, found);
            return found;
        }
        int row = finder == 1 ? 0 : task.countsRow();
        int most = finder == 0 ? Math.min(1, limit) : limit;
        while (found.steps < most && found.row < 0) {
            found.steps++;
            if (task.firstBroken(row) < 0) {
                found.row = row;
            }
            int next = (5 * row + 3 + found.steps) % (1 << task.letters), best = task.worth(row);
            for (int l = 0; l < task.letters; l++) {
                if (task.worth(row ^ 1 << l) > best) {
                    best = task.worth(row ^ 1 << l);
                    next = row ^ 1 << l;
                }
            }
            row = next;
        }
        return found;
    }

    private static boolean search(Task task, boolean[] row, int told, int limit, Found found) {
        if (found.steps == limit) {
            return true;
        }
        found.steps++;
        for (int c = 0; c < task.clauses.size(); c++) {
            Clause clause = task.clauses.get(c);
            int last = Math.max(clause.plain.isEmpty() ? -1 : clause.plain.last(),
                clause.against.isEmpty() ? -1 : clause.against.last());
            if (last < told && !task.clauseHolds(c, row)) {
                return false;
            }
        }
        if (told == task.letters) {
            found.row = 0;
            for (int l = 0; l < told; l++) {
                found.row += row[l] ? 1 << l : 0;
            }
            return true;
        }
        for (int truth = 0; truth < 2; truth++) {
            row[told] = truth == 1;
            if (search(task, row, told + 1, limit, found)) {
                return true;
            }
        }
        row[told] = false;
        return false;
    }

    int find(int t, int finder, int limit, int what) {
        if (noTask(t)) {
            return -5;
        }
        if (finder < 0 || finder > 3 || limit < 0 || limit > 2000 || what < 0 || what > 2) {
            return -2;
        }
        Found found = seek(tasks.get(t), finder, limit);
        return what == 0 ? found.row : what == 1 ? found.steps
            : found.row != -1 && found.row == tasks.get(t).hidden ? 1 : 0;
    }

    private static boolean wrongHeap(int seed, int n) {
        return seed < 0 || n < 1 || n > 24 || (long) seed + n > 100000;
    }

    int heap(int r, int seed, int n, int finder, int limit, int what) {
        if (r < 0 || r >= recipes.size()) {
            return -5;
        }
        boolean wrong = finder < 0 || finder > 3 || limit < 0 || limit > 200 || what < 0 || what > 2;
        if (wrong || wrongHeap(seed, n)) {
            return -2;
        }
        int counted = 0;
        for (int i = 0; i < n; i++) {
            Task task = made(r, seed + i);
            int row = what == 2 ? -1 : seek(task, finder, limit).row;
            boolean counts = what == 0 ? row != -1 : what == 1 ? row == task.hidden : task.solving().size() == 1;
            counted += counts ? 1 : 0;
        }
        return counted;
    }

    private static int sign(Task task) {
        int sign = 0;
        for (int l = 0; l < task.letters; l++) {
            sign += task.excess(l) * task.excess(l);
        }
        return sign;
    }

    int apart(int a, int b, int seed, int n, int what) {
        if (a < 0 || a >= recipes.size() || b < 0 || b >= recipes.size()) {
            return -5;
        }
        if (wrongHeap(seed, n) || what < 0 || what > 1) {
            return -2;
        }
        List<Integer> first = new ArrayList<>(), second = new ArrayList<>();
        for (int i = 0; i < n; i++) {
            first.add(sign(made(a, seed + i)));
            second.add(sign(made(b, seed + i)));
        }
        TreeSet<Integer> bounds = new TreeSet<>(first);
        bounds.addAll(second);
        bounds.add(-1);
        int best = -1, most = -1;
        for (int bound : bounds) {
            int right = (int) (first.stream().filter(s -> s > bound).count() + second.stream().filter(s -> s <= bound).count());
            if (right > most) {
                best = bound;
                most = right;
            }
        }
        return what == 0 ? best : most;
    }

    int twin(int t, int sheet, int turned) {
        if (noTask(t) || sheet < 0 || sheet > 3) {
            return -1;
        }
        if (sheets[sheet] == null) {
            return -11;
        }
        Task task = tasks.get(t);
        int size = sheets[sheet].cells.length;
        TreeSet<Integer> numbers = new TreeSet<>();
        for (int i = 0; i < size; i++) {
            numbers.add(number(sheet, i));
        }
        boolean whole = size == task.letters && numbers.size() == size && numbers.first() == 0 && numbers.last() == size - 1;
        if (!whole || turned < 0 || turned >= 1 << task.letters) {
            return -2;
        }
        boolean[] turn = truths(turned, task.letters), old = truths(Math.max(0, task.hidden), task.letters);
        List<Clause> clauses = new ArrayList<>();
        for (Clause c : task.clauses) {
            Clause clause = new Clause(new TreeSet<>(), new TreeSet<>());
            for (int l : c.plain) {
                (turn[number(sheet, l)] ? clause.against : clause.plain).add(number(sheet, l));
            }
            for (int l : c.against) {
                (turn[number(sheet, l)] ? clause.plain : clause.against).add(number(sheet, l));
            }
            clauses.add(clause);
        }
        int hidden = 0;
        for (int l = 0; l < task.letters; l++) {
            hidden += old[l] != turn[number(sheet, l)] ? 1 << number(sheet, l) : 0;
        }
        return kept(new Task(task.kind, task.letters, clauses, task.hidden < 0 ? -1 : hidden, -1, -1));
    }

    int claim(int t, int limit) {
        if (noTask(t)) {
            return -1;
        }
        if (limit < 1 || limit > 2000) {
            return -2;
        }
        if (claims.size() == 20) {
            return -4;
        }
        Claim claim = new Claim();
        claim.task = t;
        claim.steps = limit;
        claims.add(claim);
        return claims.size() - 1;
    }

    int tries(int k, int finder) {
        if (k < 0 || k >= claims.size()) {
            return -1;
        }
        if (finder < 0 || finder > 3) {
            return -2;
        }
        Claim claim = claims.get(k);
        if (claim.state == 2) {
            return -3;
        }
        Found found = seek(tasks.get(claim.task), finder, 2 * claim.steps);
        int state = found.row == -1 ? 0 : found.steps < claim.steps ? 2 : 1;
        if (state > claim.state) {
            claim.state = state;
            claim.finder = finder;
        }
        return claim.state;
    }

    int claimTold(int k, int what) {
        if (k < 0 || k >= claims.size()) {
            return -5;
        }
        Claim claim = claims.get(k);
        int[] told = {claim.task, claim.steps, claim.state, claim.finder};
        return what < 0 || what > 3 ? -7 : told[what];
    }

    int kindTold(int kind, int is, int wide, int what) {
        if (kind < 0 || kind > 5 || wide < 1 || wide > 3 || is < 0 || is > wide || what < 0 || what > 1) {
            return -2;
        }
        return what == 1 ? worth(kind, is, wide) : holds(kind, is, wide) ? 1 : 0;
    }

    int count(int what) {
        int[] counts = {tasks.size(), recipes.size(), claims.size(), tape.length()};
        return what < 0 || what > 3 ? -2 : counts[what];
    }

    int image() {
        image = tasks.size();
        return image;
    }

    int back() {
        if (image < 0) {
            return -3;
        }
        tasks = new ArrayList<>(tasks.subList(0, image));
        claims.removeIf(claim -> claim.task >= image);
        return image;
    }

    int sheet(int s, int sort, int n) {
        if (s < 0 || s > 3 || sort < -1 || sort > 2 || sort >= 0 && n > 40) {
            return -2;
        }
        if (sort >= 0 && n < 0) {
            return -14;
        }
        sheets[s] = sort == -1 ? null : new Row(sort, new int[n]);
        return 1;
    }

    int cell(int s, int i, int v) {
        if (s < 0 || s > 3) {
            return -2;
        }
        if (sheets[s] == null) {
            return -11;
        }
        if (i < 0 || i >= sheets[s].cells.length) {
            return -12;
        }
        int sort = sheets[s].sort;
        sheets[s].cells[i] = sort == 0 ? (byte) v : sort == 1 ? (short) v : v;
        return 1;
    }

    int copy(int s, int i, int other, int j, int n) {
        if (s < 0 || s > 3 || other < 0 || other > 3) {
            return -2;
        }
        if (sheets[s] == null || sheets[other] == null) {
            return -11;
        }
        if (sheets[s].sort != sheets[other].sort) {
            return -13;
        }
        int[] from = sheets[s].cells.clone(), to = sheets[other].cells;
        if (i < 0 || j < 0 || n < 0 || (long) i + n > from.length || (long) j + n > to.length) {
            return -12;
        }
        for (int c = 0; c < n; c++) {
            to[j + c] = from[i + c];
        }
        return n;
    }

    int claims(int s, int sort, int from, int n) {
        if (s < 0 || s > 3 || sort < 0 || sort > 2 || n < 0 || n > 20) {
            return -2;
        }
        if (sheets[s] == null) {
            return -11;
        }
        if (sheets[s].sort != sort) {
            return -13;
        }
        int came = 0;
        for (long i = 0; i < n; i++) {
            long at = from + 2 * i;
            if (at < 0 || at + 1 >= sheets[s].cells.length) {
                return -12;
            }
            came += claim(number(s, (int) at), number(s, (int) at + 1)) >= 0 ? 1 : 0;
        }
        return came;
    }

    int taken(int what, int i, int kind) {
        if (what < 0 || what > 2 || kind < 0 || kind > 7) {
            return -2;
        }
        int lie = what == 0 ? tasks.size() : what == 1 ? recipes.size() : claims.size();
        if (i < 0 || i >= lie) {
            return -11;
        }
        if (what == 1) {
            return kind == 6 ? recipes.get(i).wide : -13;
        }
        if (what == 2) {
            return kind == 7 ? claims.get(i).steps : -13;
        }
        String[] kinds = {"0", "01", "02", "013", "024", "05"};
        boolean isOne = kind < 6 && kinds[tasks.get(i).kind].indexOf('0' + kind) >= 0;
        return isOne ? tasks.get(i).kind : -13;
    }
}
