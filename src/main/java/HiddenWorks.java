import java.util.Arrays;

/** Tasks of clauses made with the answer inside, what leans toward it, and what finds it. */
public final class HiddenWorks {
    public static final int NONE = -1, BAD = -2, STATE = -3, FULL = -4;
    public static final long NO = -4611686018427387904L;

    private static final int ABSENT = -5, NO_SUCH_WHAT = -7, NO_LETTER = -1000;
    private static final int NOTHING_THERE = -11, OUTSIDE = -12, OTHER_SORT = -13, BELOW_ZERO = -14;

    private static final int MOST_LETTERS = 10, MOST_CLAUSES = 24, MOST_WIDE = 3, MOST_WEIGHT = 99;
    private static final int MOST_BYTES = 80, MOST_RECIPES = 6, MOST_TASKS = 8, MOST_CLAIMS = 20;
    private static final int ALL_SEEDS = 100000, MOST_IN_HEAP = 24, HEAP_LIMIT = 200;
    private static final int FINDERS = 4, FIND_LIMIT = 2000, MOST_STEPS = 2000;
    private static final int STANDS = 0, SHAKEN = 1, BROKEN = 2;
    private static final int SHEETS = 4, SORTS = 3, MOST_CELLS = 40, MOST_BY_SHEET = 20;
    private static final int AS_RECIPE = 6, AS_CLAIM = 7;

    private final Tape tape;
    private final Recipe[] recipes;
    private final Task[] tasks;
    private final Claim[] claims;
    private final Sheet[] sheets;
    private final Maker maker;
    private final Finder finder;
    /** The one task that heaps are made in, one behind the other, so that a heap makes no objects. */
    private final Task heaped;
    private final int[] firstSigns, secondSigns;
    private final int[] trueAnswers;
    private int recipeCount, taskCount, claimCount;
    private int tasksInImage;

    public HiddenWorks() {
        tape = new Tape();
        maker = new Maker();
        finder = new Finder();
        heaped = new Task();
        firstSigns = new int[MOST_IN_HEAP];
        secondSigns = new int[MOST_IN_HEAP];
        trueAnswers = new int[MOST_LETTERS];
        recipes = new Recipe[MOST_RECIPES];
        for (int r = 0; r < MOST_RECIPES; r++) {
            recipes[r] = new Recipe();
        }
        tasks = new Task[MOST_TASKS];
        for (int t = 0; t < MOST_TASKS; t++) {
            tasks[t] = new Task();
        }
        claims = new Claim[MOST_CLAIMS];
        for (int k = 0; k < MOST_CLAIMS; k++) {
            claims[k] = new Claim();
        }
        sheets = new Sheet[SHEETS];
        for (int s = 0; s < SHEETS; s++) {
            sheets[s] = new Sheet();
        }
        tasksInImage = -1;
    }

    // ---- the tape and its recipes

    public int feed(long w, int n) {
        if (n < 1 || n > 8) {
            return BAD;
        }
        if (tape.size + n > MOST_BYTES) {
            return FULL;
        }
        for (int i = n - 1; i >= 0; i--) {
            tape.put((int) (w >>> (8 * i)) & 255);
        }
        return tape.size;
    }

    public int recipe() {
        if (recipeCount >= MOST_RECIPES) {
            return FULL;
        }
        int fault = tape.readInto(recipes[recipeCount]);
        tape.size = 0;
        if (fault >= 0) {
            return -100 - fault;
        }
        recipeCount++;
        return recipeCount - 1;
    }

    public int recipeTold(int r, int what) {
        Recipe recipe = recipeAt(r);
        if (recipe == null) {
            return ABSENT;
        }
        switch (what) {
            case 0: return recipe.kind;
            case 1: return recipe.letters;
            case 2: return recipe.clauses;
            case 3: return recipe.wide;
            default: return what >= 4 && what - 4 <= recipe.wide ? recipe.weights[what - 4] : NO_SUCH_WHAT;
        }
    }

    // ---- tasks

    public int make(int recipe, int seed) {
        Recipe by = recipeAt(recipe);
        if (by == null) {
            return NONE;
        }
        if (seed < 0 || seed >= ALL_SEEDS) {
            return BAD;
        }
        if (taskCount >= MOST_TASKS) {
            return FULL;
        }
        Task task = tasks[taskCount];
        maker.fill(task, by, seed);
        task.recipe = recipe;
        task.seed = seed;
        return keepTask();
    }

    public int wild(int kind, int letters, int sheet) {
        if (!isSheet(sheet)) {
            return NONE;
        }
        if (!Kind.exists(kind) || letters < 1 || letters > MOST_LETTERS) {
            return BAD;
        }
        Sheet from = sheets[sheet];
        if (from.isMissing()) {
            return NOTHING_THERE;
        }
        if (!areClauses(from, letters)) {
            return BAD;
        }
        if (taskCount >= MOST_TASKS) {
            return FULL;
        }
        Task task = tasks[taskCount];
        task.begin(kind, letters);
        for (int i = 0; i + 1 < from.size; i += 2) {
            task.addClause(from.cells[i], from.cells[i + 1]);
        }
        return keepTask();
    }

    private static boolean areClauses(Sheet sheet, int letters) {
        if (sheet.size % 2 != 0) {
            return false;
        }
        for (int i = 0; i + 1 < sheet.size; i += 2) {
            int plain = sheet.cells[i], against = sheet.cells[i + 1];
            int wide = Integer.bitCount(plain | against);
            boolean inside = isRow(plain, letters) && isRow(against, letters);
            if (!inside || (plain & against) != 0 || wide < 1 || wide > MOST_WIDE) {
                return false;
            }
        }
        return true;
    }

    public int taskTold(int t, int what) {
        Task task = taskAt(t);
        if (task == null) {
            return ABSENT;
        }
        switch (what) {
            case 0: return task.kind;
            case 1: return task.letters;
            case 2: return task.clauses;
            case 3: return task.hidden;
            case 4: return task.recipe;
            case 5: return task.seed;
            default: return NO_SUCH_WHAT;
        }
    }

    public int clauseTold(int t, int c, int what) {
        Task task = taskAt(t);
        if (task == null || c < 0 || c >= task.clauses) {
            return ABSENT;
        }
        switch (what) {
            case 0: return task.plain[c];
            case 1: return task.against[c];
            default: return NO_SUCH_WHAT;
        }
    }

    // ---- answers

    public int solves(int t, int answer) {
        Task task = taskAt(t);
        if (task == null) {
            return ABSENT;
        }
        return isRow(answer, task.letters) ? task.brokenFrom(0, answer) : BAD;
    }

    public int answers(int t, int fixed, int as) {
        Task task = taskAt(t);
        if (task == null) {
            return ABSENT;
        }
        if (!isRow(fixed, task.letters) || (as & ~fixed) != 0) {
            return BAD;
        }
        return task.countAnswers(fixed, as);
    }

    public int answer(int t, int i) {
        Task task = taskAt(t);
        if (task == null) {
            return ABSENT;
        }
        int ahead = 0;
        for (int row = 0; row < task.rows(); row++) {
            if (task.isSolvedBy(row)) {
                if (ahead == i) {
                    return row;
                }
                ahead++;
            }
        }
        return NONE;
    }

    public int nearest(int t, int row) {
        Task task = taskAt(t);
        if (task == null) {
            return ABSENT;
        }
        if (!isRow(row, task.letters)) {
            return BAD;
        }
        int best = NONE, least = MOST_LETTERS + 1;
        for (int other = 0; other < task.rows(); other++) {
            int unlike = Integer.bitCount(other ^ row);
            if (unlike < least && task.isSolvedBy(other)) {
                best = other;
                least = unlike;
            }
        }
        return best;
    }

    public int hint(int t) {
        Task task = taskAt(t);
        if (task == null) {
            return ABSENT;
        }
        int all = task.tallyAnswers(trueAnswers);
        int best = NONE, fewest = all + 1;
        for (int l = 0; l < task.letters; l++) {
            int leftIfTrue = trueAnswers[l], leftIfFalse = all - leftIfTrue;
            if (leftIfFalse > 0 && leftIfFalse < fewest) {
                best = 2 * l;
                fewest = leftIfFalse;
            }
            if (leftIfTrue > 0 && leftIfTrue < fewest) {
                best = 2 * l + 1;
                fewest = leftIfTrue;
            }
        }
        return best;
    }

    public int needed(int t) {
        Task task = taskAt(t);
        if (task == null) {
            return ABSENT;
        }
        int needed = 0;
        for (int row = 0; row < task.rows(); row++) {
            int broken = task.brokenFrom(0, row);
            // A row that just one clause keeps out would solve without it.
            if (broken >= 0 && task.brokenFrom(broken + 1, row) < 0) {
                needed |= 1 << broken;
            }
        }
        return needed;
    }

    // ---- what leans

    public int lean(int t, int l) {
        Task task = taskAt(t);
        if (task == null || l < 0 || l >= task.letters) {
            return NO_LETTER;
        }
        boolean turned = task.hidden >= 0 && (task.hidden >> l & 1) == 0;
        return turned ? -task.excess(l) : task.excess(l);
    }

    public long leans(int r, int part) {
        Recipe recipe = recipeAt(r);
        if (recipe == null || part < 0 || part > 1) {
            return NO;
        }
        return partInLowestTerms(recipe.leaning(), recipe.allWays() * recipe.wide, part);
    }

    public long pairs(int r, int part) {
        Recipe recipe = recipeAt(r);
        if (recipe == null || part < 0 || part > 1) {
            return NO;
        }
        return partInLowestTerms(recipe.pairing(), recipe.allWays() * recipe.pairCount(), part);
    }

    private static long partInLowestTerms(int above, int below, int part) {
        if (above == 0 || below == 0) {
            return part;
        }
        int shared = greatestShared(Math.abs(above), below);
        int told = part == 0 ? above : below;
        return shared == 0 ? told : told / shared;
    }

    private static int greatestShared(int a, int b) {
        int greater = a, lesser = b;
        for (int i = 0; i < 100 && lesser != 0; i++) {
            int rest = greater % lesser;
            greater = lesser;
            lesser = rest;
        }
        return greater;
    }

    public int balance(int r) {
        Recipe recipe = recipeAt(r);
        if (recipe == null) {
            return ABSENT;
        }
        int best = NONE, least = MOST_WEIGHT + 1;
        for (int is = 0; is <= recipe.wide; is++) {
            for (int weight = 0; weight <= MOST_WEIGHT; weight++) {
                int change = Math.abs(weight - recipe.weights[is]);
                if (change < least && recipe.balancesWith(is, weight)) {
                    best = 100 * is + weight;
                    least = change;
                }
            }
        }
        return best;
    }

    // ---- finders

    public int find(int t, int finder, int limit, int what) {
        Task task = taskAt(t);
        if (task == null) {
            return ABSENT;
        }
        if (!isFinder(finder) || limit < 0 || limit > FIND_LIMIT || what < 0 || what > 2) {
            return BAD;
        }
        this.finder.seek(task, finder, limit);
        switch (what) {
            case 0: return this.finder.found;
            case 1: return this.finder.steps;
            default: return this.finder.foundHidden(task) ? 1 : 0;
        }
    }

    public int heap(int r, int seed, int n, int finder, int limit, int what) {
        Recipe recipe = recipeAt(r);
        if (recipe == null) {
            return ABSENT;
        }
        if (!isHeap(seed, n) || !isFinder(finder) || limit < 0 || limit > HEAP_LIMIT || what < 0 || what > 2) {
            return BAD;
        }
        int counted = 0;
        for (int i = 0; i < n; i++) {
            maker.fill(heaped, recipe, seed + i);
            boolean counts;
            if (what == 2) {
                counts = heaped.countAnswers(0, 0) == 1;
            } else {
                this.finder.seek(heaped, finder, limit);
                counts = what == 0 ? this.finder.found >= 0 : this.finder.foundHidden(heaped);
            }
            if (counts) {
                counted++;
            }
        }
        return counted;
    }

    public int apart(int a, int b, int seed, int n, int what) {
        Recipe first = recipeAt(a), second = recipeAt(b);
        if (first == null || second == null) {
            return ABSENT;
        }
        if (!isHeap(seed, n) || what < 0 || what > 1) {
            return BAD;
        }
        for (int i = 0; i < n; i++) {
            maker.fill(heaped, first, seed + i);
            firstSigns[i] = heaped.sign();
            maker.fill(heaped, second, seed + i);
            secondSigns[i] = heaped.sign();
        }
        int best = -1, most = rightBy(-1, n);
        for (int i = 0; i < 2 * n; i++) {
            int bound = i < n ? firstSigns[i] : secondSigns[i - n];
            int right = rightBy(bound, n);
            if (right > most || right == most && bound < best) {
                best = bound;
                most = right;
            }
        }
        return what == 0 ? best : most;
    }

    private int rightBy(int bound, int n) {
        int right = 0;
        for (int i = 0; i < n; i++) {
            if (firstSigns[i] > bound) {
                right++;
            }
            if (secondSigns[i] <= bound) {
                right++;
            }
        }
        return right;
    }

    // ---- twins, claims

    public int twin(int t, int sheet, int turned) {
        Task task = taskAt(t);
        if (task == null || !isSheet(sheet)) {
            return NONE;
        }
        Sheet numbers = sheets[sheet];
        if (numbers.isMissing()) {
            return NOTHING_THERE;
        }
        if (!isRow(turned, task.letters) || !numbers.isOrderOf(task.letters)) {
            return BAD;
        }
        if (taskCount >= MOST_TASKS) {
            return FULL;
        }
        Task twin = tasks[taskCount];
        twin.begin(task.kind, task.letters);
        for (int c = 0; c < task.clauses; c++) {
            int plain = numbers.renumbered(task.plain[c]), against = numbers.renumbered(task.against[c]);
            twin.addClause(plain & ~turned | against & turned, against & ~turned | plain & turned);
        }
        if (task.hidden >= 0) {
            twin.hidden = numbers.renumbered(task.hidden) ^ turned;
        }
        return keepTask();
    }

    public int claim(int t, int limit) {
        if (taskAt(t) == null) {
            return NONE;
        }
        if (limit < 1 || limit > MOST_STEPS) {
            return BAD;
        }
        if (claimCount >= MOST_CLAIMS) {
            return FULL;
        }
        claims[claimCount].begin(t, limit);
        claimCount++;
        return claimCount - 1;
    }

    public int tries(int k, int finder) {
        Claim claim = claimAt(k);
        if (claim == null) {
            return NONE;
        }
        if (!isFinder(finder)) {
            return BAD;
        }
        if (claim.state == BROKEN) {
            return STATE;
        }
        Task task = taskAt(claim.task);
        if (task == null) {
            return NONE;
        }
        this.finder.seek(task, finder, 2 * claim.steps);
        if (this.finder.found >= 0) {
            claim.worsen(this.finder.steps < claim.steps ? BROKEN : SHAKEN, finder);
        }
        return claim.state;
    }

    public int claimTold(int k, int what) {
        Claim claim = claimAt(k);
        if (claim == null) {
            return ABSENT;
        }
        switch (what) {
            case 0: return claim.task;
            case 1: return claim.steps;
            case 2: return claim.state;
            case 3: return claim.finder;
            default: return NO_SUCH_WHAT;
        }
    }

    public int kindTold(int kind, int is, int wide, int what) {
        boolean told = Kind.exists(kind) && wide >= 1 && wide <= MOST_WIDE && is >= 0 && is <= wide;
        if (!told || what < 0 || what > 1) {
            return BAD;
        }
        if (what == 1) {
            return Kind.worth(kind, is, wide);
        }
        return Kind.holds(kind, is, wide) ? 1 : 0;
    }

    public int count(int what) {
        switch (what) {
            case 0: return taskCount;
            case 1: return recipeCount;
            case 2: return claimCount;
            case 3: return tape.size;
            default: return BAD;
        }
    }

    public int image() {
        tasksInImage = taskCount;
        return taskCount;
    }

    public int back() {
        if (tasksInImage < 0) {
            return STATE;
        }
        taskCount = Math.min(taskCount, tasksInImage);
        int kept = 0;
        for (int k = 0; k < claimCount; k++) {
            if (claims[k].task < taskCount) {
                claims[kept].become(claims[k]);
                kept++;
            }
        }
        claimCount = kept;
        return taskCount;
    }

    // ---- the host

    public int sheet(int s, int sort, int n) {
        if (!isSheet(s) || sort < -1 || sort >= SORTS) {
            return BAD;
        }
        if (sort == -1) {
            sheets[s].begin(-1, 0);
            return 1;
        }
        if (n > MOST_CELLS) {
            return BAD;
        }
        if (n < 0) {
            return BELOW_ZERO;
        }
        sheets[s].begin(sort, n);
        return 1;
    }

    public int cell(int s, int i, int v) {
        if (!isSheet(s)) {
            return BAD;
        }
        Sheet sheet = sheets[s];
        if (sheet.isMissing()) {
            return NOTHING_THERE;
        }
        if (i < 0 || i >= sheet.size) {
            return OUTSIDE;
        }
        sheet.cells[i] = sheet.cut(v);
        return 1;
    }

    public int copy(int s, int i, int other, int j, int n) {
        if (!isSheet(s) || !isSheet(other)) {
            return BAD;
        }
        Sheet from = sheets[s], to = sheets[other];
        if (from.isMissing() || to.isMissing()) {
            return NOTHING_THERE;
        }
        if (from.sort != to.sort) {
            return OTHER_SORT;
        }
        if (!from.hasRange(i, n) || !to.hasRange(j, n)) {
            return OUTSIDE;
        }
        System.arraycopy(from.cells, i, to.cells, j, n);
        return n;
    }

    public int claims(int s, int sort, int from, int n) {
        if (!isSheet(s) || sort < 0 || sort >= SORTS || n < 0 || n > MOST_BY_SHEET) {
            return BAD;
        }
        Sheet sheet = sheets[s];
        if (sheet.isMissing()) {
            return NOTHING_THERE;
        }
        if (sheet.sort != sort) {
            return OTHER_SORT;
        }
        int came = 0;
        for (int i = 0; i < n; i++) {
            // Only after a pair that lies inside does the place go on, so it can't overflow.
            int place = from + 2 * i;
            if (!sheet.hasRange(place, 2)) {
                return OUTSIDE;
            }
            if (claim(sheet.cells[place], sheet.cells[place + 1]) >= 0) {
                came++;
            }
        }
        return came;
    }

    public int taken(int what, int i, int kind) {
        if (what < 0 || what > 2 || kind < 0 || kind > AS_CLAIM) {
            return BAD;
        }
        if (what == 0) {
            return taskTaken(taskAt(i), kind);
        }
        if (what == 1) {
            Recipe recipe = recipeAt(i);
            if (recipe == null) {
                return NOTHING_THERE;
            }
            return kind == AS_RECIPE ? recipe.wide : OTHER_SORT;
        }
        Claim claim = claimAt(i);
        if (claim == null) {
            return NOTHING_THERE;
        }
        return kind == AS_CLAIM ? claim.steps : OTHER_SORT;
    }

    private static int taskTaken(Task task, int kind) {
        if (task == null) {
            return NOTHING_THERE;
        }
        return Kind.isOne(task.kind, kind) ? task.kind : OTHER_SORT;
    }

    // ---- what is there, and what is as told

    private Recipe recipeAt(int r) {
        return r >= 0 && r < recipeCount ? recipes[r] : null;
    }

    private Task taskAt(int t) {
        return t >= 0 && t < taskCount ? tasks[t] : null;
    }

    private Claim claimAt(int k) {
        return k >= 0 && k < claimCount ? claims[k] : null;
    }

    private int keepTask() {
        taskCount++;
        return taskCount - 1;
    }

    private static boolean isSheet(int s) {
        return s >= 0 && s < SHEETS;
    }

    private static boolean isFinder(int finder) {
        return finder >= 0 && finder < FINDERS;
    }

    private static boolean isRow(int row, int letters) {
        return row >= 0 && row < 1 << letters;
    }

    private static boolean isHeap(int seed, int n) {
        return seed >= 0 && seed < ALL_SEEDS && n >= 1 && n <= MOST_IN_HEAP && seed + n <= ALL_SEEDS;
    }

    /** The kinds: when a clause holds, by how many of how wide are true, and its worth. */
    static final class Kind {
        static final int CLAUSE = 0, UNLIKE = 1, UNEVEN = 2, ONE = 3, EVEN = 4, MOST = 5;
        private static final int KINDS = 6, WORTH = 3;
        private static final int[] ABOVE = {-1, CLAUSE, CLAUSE, UNLIKE, UNEVEN, CLAUSE};

        private Kind() {
        }

        static boolean exists(int kind) {
            return kind >= 0 && kind < KINDS;
        }

        static boolean holds(int kind, int is, int wide) {
            switch (kind) {
                case UNLIKE: return is > 0 && (is < wide || wide == 1);
                case UNEVEN: return is % 2 == 1;
                // One true literal is above none, and below the width or all of width 1.
                case ONE: return is == 1;
                case EVEN: return is % 2 == 0;
                case MOST: return is > 0 && 2 * is > wide;
                default: return is > 0;
            }
        }

        static int worth(int kind, int is, int wide) {
            int worth = holds(kind, is, wide) ? WORTH : 0;
            if (kind == ONE && is == 0) {
                return worth - 1;
            }
            return kind == MOST ? worth + is : worth;
        }

        static boolean isOne(int kind, int other) {
            int at = kind;
            for (int i = 0; i < KINDS && at >= 0 && at < KINDS; i++) {
                if (at == other) {
                    return true;
                }
                at = ABOVE[at];
            }
            return false;
        }
    }

    /** A recipe: what tasks are made by, and what it leans toward. */
    static final class Recipe {
        int kind, letters, clauses, wide;
        final int[] weights = new int[MOST_WIDE + 1];

        int ways(int is) {
            return is == 0 || is == wide ? 1 : wide;
        }

        int share(int is) {
            return weights[is] * ways(is);
        }

        int allWays() {
            int all = 0;
            for (int is = 0; is <= wide; is++) {
                all += share(is);
            }
            return all;
        }

        int leaning() {
            int leaning = 0;
            for (int is = 0; is <= wide; is++) {
                leaning += share(is) * (2 * is - wide);
            }
            return leaning;
        }

        int pairCount() {
            return wide * (wide - 1) / 2;
        }

        int pairing() {
            int pairing = 0;
            for (int is = 0; is <= wide; is++) {
                int unlike = is * (wide - is);
                pairing += share(is) * (pairCount() - 2 * unlike);
            }
            return pairing;
        }

        boolean balancesWith(int is, int weight) {
            if (!Kind.holds(kind, is, wide)) {
                return false;
            }
            int kept = weights[is];
            weights[is] = weight;
            boolean balanced = leaning() == 0 && allWays() > 0;
            weights[is] = kept;
            return balanced;
        }
    }

    /** The tape, and the reading of a recipe from it. */
    static final class Tape {
        private final int[] bytes = new int[MOST_BYTES];
        int size;
        private int place, fault;

        void put(int b) {
            if (size < bytes.length) {
                bytes[size] = b;
                size++;
            }
        }

        /** The place of the fault, or -1 if the recipe is whole. */
        int readInto(Recipe recipe) {
            place = 0;
            fault = -1;
            recipe.kind = named('k', 0, Kind.KINDS - 1);
            gap();
            recipe.letters = named('n', 1, MOST_LETTERS);
            gap();
            recipe.clauses = named('c', 0, MOST_CLAUSES);
            gap();
            recipe.wide = named('w', 1, Math.min(MOST_WIDE, recipe.letters));
            for (int is = 0; is <= recipe.wide && fault < 0; is++) {
                gap();
                recipe.weights[is] = number(0, Kind.holds(recipe.kind, is, recipe.wide) ? MOST_WEIGHT : 0);
            }
            if (fault < 0 && (place < size || recipe.allWays() == 0)) {
                fault = place;
            }
            return fault;
        }

        private int named(char name, int least, int most) {
            if (fault >= 0) {
                return 0;
            }
            if (byteHere() != name) {
                fault = place;
                return 0;
            }
            place++;
            return number(least, most);
        }

        private void gap() {
            if (fault >= 0) {
                return;
            }
            if (byteHere() != ' ') {
                fault = place;
            }
            for (int i = 0; i < MOST_BYTES && byteHere() == ' '; i++) {
                place++;
            }
        }

        private int number(int least, int most) {
            if (fault >= 0) {
                return 0;
            }
            int start = place, value = 0;
            for (int i = 0; i < 2 && byteHere() >= '0' && byteHere() <= '9'; i++) {
                value = 10 * value + byteHere() - '0';
                place++;
            }
            if (place == start || value < least || value > most) {
                fault = start;
                return 0;
            }
            return value;
        }

        private int byteHere() {
            return place >= 0 && place < size && place < bytes.length ? bytes[place] : -1;
        }
    }

    /** A task: letters, clauses of one kind, and what was hidden in it (-1: nothing). */
    static final class Task {
        int kind, letters, clauses, hidden, recipe, seed;
        final int[] plain = new int[MOST_CLAUSES], against = new int[MOST_CLAUSES];

        void begin(int kind, int letters) {
            this.kind = kind;
            this.letters = letters;
            clauses = 0;
            hidden = -1;
            recipe = -1;
            seed = -1;
        }

        void addClause(int plain, int against) {
            if (clauses < MOST_CLAUSES) {
                this.plain[clauses] = plain;
                this.against[clauses] = against;
                clauses++;
            }
        }

        int rows() {
            return 1 << letters;
        }

        private int trueOnes(int c, int row) {
            return Integer.bitCount(plain[c] & row | against[c] & ~row);
        }

        private int width(int c) {
            return Integer.bitCount(plain[c] | against[c]);
        }

        private boolean holds(int c, int row) {
            return Kind.holds(kind, trueOnes(c, row), width(c));
        }

        /** The first clause, from one on, that doesn't hold; -1 if all do. */
        int brokenFrom(int first, int row) {
            for (int c = first; c < clauses; c++) {
                if (!holds(c, row)) {
                    return c;
                }
            }
            return -1;
        }

        boolean isSolvedBy(int row) {
            return brokenFrom(0, row) < 0;
        }

        /** Whether all clauses hold whose letters are all among the first ones that are told. */
        boolean holdsSoFar(int told, int row) {
            int untold = ~((1 << told) - 1);
            for (int c = 0; c < clauses; c++) {
                if (((plain[c] | against[c]) & untold) == 0 && !holds(c, row)) {
                    return false;
                }
            }
            return true;
        }

        int countAnswers(int fixed, int as) {
            int counted = 0;
            for (int row = 0; row < rows(); row++) {
                if ((row & fixed) == as && isSolvedBy(row)) {
                    counted++;
                }
            }
            return counted;
        }

        /** How many answers solve; for each letter, in how many of them it is true. */
        int tallyAnswers(int[] trueAnswers) {
            Arrays.fill(trueAnswers, 0);
            int counted = 0;
            for (int row = 0; row < rows(); row++) {
                if (isSolvedBy(row)) {
                    counted++;
                    for (int l = 0; l < letters && l < trueAnswers.length; l++) {
                        trueAnswers[l] += row >> l & 1;
                    }
                }
            }
            return counted;
        }

        /** How much more often a letter stands plain than against. */
        int excess(int l) {
            int excess = 0;
            for (int c = 0; c < clauses; c++) {
                excess += (plain[c] >> l & 1) - (against[c] >> l & 1);
            }
            return excess;
        }

        int countsRow() {
            int row = 0;
            for (int l = 0; l < letters; l++) {
                if (excess(l) > 0) {
                    row |= 1 << l;
                }
            }
            return row;
        }

        int sign() {
            int sign = 0;
            for (int l = 0; l < letters; l++) {
                int excess = excess(l);
                sign += excess * excess;
            }
            return sign;
        }

        /** By how much the worth of all clauses together grows if a letter is turned. */
        int gainByTurning(int l, int row) {
            int bit = 1 << l, gain = 0;
            for (int c = 0; c < clauses; c++) {
                if (((plain[c] | against[c]) & bit) != 0) {
                    int wide = width(c);
                    gain += Kind.worth(kind, trueOnes(c, row ^ bit), wide) - Kind.worth(kind, trueOnes(c, row), wide);
                }
            }
            return gain;
        }
    }

    /** What makes tasks by a recipe and a seed. */
    static final class Maker {
        private long lot;

        void fill(Task task, Recipe recipe, int seed) {
            lot = seed + 1L;
            task.begin(recipe.kind, recipe.letters);
            int hidden = 0;
            for (int l = 0; l < recipe.letters; l++) {
                hidden |= draw(2) << l;
            }
            task.hidden = hidden;
            for (int c = 0; c < recipe.clauses; c++) {
                int letters = drawLetters(recipe.letters, recipe.wide);
                int against = letters & (drawTrue(recipe, letters) ^ hidden);
                task.addClause(letters & ~against, against);
            }
        }

        private int draw(int n) {
            lot = lot * 48271L % 2147483647L;
            return n < 1 ? 0 : (int) (lot / 16L % n);
        }

        private int drawLetters(int letters, int wide) {
            int free = (1 << letters) - 1, drawn = 0;
            for (int i = 0; i < wide; i++) {
                int letter = bitAt(free, draw(letters - i));
                drawn |= letter;
                free &= ~letter;
            }
            return drawn;
        }

        /** Those of a clause's letters whose literals the hidden answer makes true. */
        private int drawTrue(Recipe recipe, int letters) {
            int left = draw(recipe.allWays());
            for (int is = 0; is <= recipe.wide; is++) {
                int weight = recipe.weights[is], share = recipe.share(is);
                if (weight > 0 && left < share) {
                    return trueByWay(letters, is, recipe.wide, left / weight);
                }
                left -= share;
            }
            return 0;
        }

        private static int trueByWay(int letters, int is, int wide, int way) {
            if (is == 0) {
                return 0;
            }
            if (is == wide) {
                return letters;
            }
            int chosen = bitAt(letters, way);
            return is == 1 ? chosen : letters & ~chosen;
        }

        /** The bit, of those that are set, with a place, the lowest first; 0 if there are not so many. */
        private static int bitAt(int bits, int place) {
            int ahead = 0;
            for (int b = 0; b < MOST_LETTERS; b++) {
                if ((bits >> b & 1) == 1) {
                    if (ahead == place) {
                        return 1 << b;
                    }
                    ahead++;
                }
            }
            return 0;
        }
    }

    /** The finders; what the last one found (-1: nothing), and in how many steps. */
    static final class Finder {
        int found, steps;

        void seek(Task task, int finder, int limit) {
            found = -1;
            steps = 0;
            switch (finder) {
                case 0: climb(task, task.countsRow(), Math.min(limit, 1)); break;
                case 1: climb(task, 0, limit); break;
                case 2: climb(task, task.countsRow(), limit); break;
                default: search(task, limit); break;
            }
        }

        boolean foundHidden(Task task) {
            return found >= 0 && found == task.hidden;
        }

        private void climb(Task task, int start, int limit) {
            int row = start;
            for (int step = 1; step <= limit; step++) {
                steps = step;
                if (task.isSolvedBy(row)) {
                    found = row;
                    return;
                }
                row = rowAfter(task, row);
            }
        }

        private int rowAfter(Task task, int row) {
            int next = 5 * row + 3 + steps & task.rows() - 1, best = 0;
            for (int l = 0; l < task.letters; l++) {
                int gain = task.gainByTurning(l, row);
                if (gain > best) {
                    next = row ^ 1 << l;
                    best = gain;
                }
            }
            return next;
        }

        private void search(Task task, int limit) {
            int told = 0, row = 0;
            for (int step = 1; step <= limit; step++) {
                steps = step;
                if (task.holdsSoFar(told, row)) {
                    if (told == task.letters) {
                        found = row;
                        return;
                    }
                    told++;
                } else {
                    while (told > 0 && (row >> told - 1 & 1) == 1) {
                        told--;
                        row &= ~(1 << told);
                    }
                    if (told == 0) {
                        return;
                    }
                    row |= 1 << told - 1;
                }
            }
        }
    }

    /** A claim that a task is hard. */
    static final class Claim {
        int task, steps, state, finder;

        void begin(int task, int steps) {
            this.task = task;
            this.steps = steps;
            state = STANDS;
            finder = -1;
        }

        void worsen(int state, int finder) {
            if (state > this.state) {
                this.state = state;
                this.finder = finder;
            }
        }

        void become(Claim other) {
            task = other.task;
            steps = other.steps;
            state = other.state;
            finder = other.finder;
        }
    }

    /** A row of numbers of a sort (0 bytes, 1 shorts, 2 ints), or missing (-1). */
    static final class Sheet {
        int sort = -1, size;
        final int[] cells = new int[MOST_CELLS];

        void begin(int sort, int size) {
            this.sort = sort;
            this.size = size;
            Arrays.fill(cells, 0);
        }

        boolean isMissing() {
            return sort < 0;
        }

        int cut(int v) {
            switch (sort) {
                case 0: return (byte) v;
                case 1: return (short) v;
                default: return v;
            }
        }

        boolean hasRange(int from, int n) {
            return from >= 0 && n >= 0 && from <= size && n <= size - from;
        }

        /** Whether it has each of the numbers below n once. */
        boolean isOrderOf(int n) {
            int seen = 0;
            for (int i = 0; i < size; i++) {
                if (cells[i] < 0 || cells[i] >= n) {
                    return false;
                }
                seen |= 1 << cells[i];
            }
            return size == n && seen == (1 << n) - 1;
        }

        /** The bits, each at the number that the sheet has at its place. */
        int renumbered(int bits) {
            int renumbered = 0;
            for (int i = 0; i < size && i < MOST_LETTERS; i++) {
                if ((bits >> i & 1) == 1) {
                    renumbered |= 1 << cells[i];
                }
            }
            return renumbered;
        }
    }
}
