/**
 * A store of slides: decks by versions with branches, merges with clashes, style rules by rank,
 * waivers that end, and what is shown of each branch. ../shared/DOC.md says what each call does.
 *
 * <p>Everything is made once, in the constructor, and used again: calls make nothing but a Merge
 * and the exceptions.
 */
public final class Slidewarden {
    public static final int NONE = -1;
    public static final int OURS = 0, THEIRS = 1;

    private static final int MOST_VERSIONS = 40;
    private static final int MOST_BRANCHES = 6;
    private static final int MOST_SLIDES = 20;
    private static final int DECK_SLIDES = 8;
    private static final int OBJECTS = 4;
    private static final int MOST_VALUE = 999;
    private static final int RANKS = 3;
    private static final int MOST_RULES = 8;
    private static final int MOST_WAIVERS = 12;
    private static final int LAST_DAY = 999;
    private static final int MOST_DAYS = 100;

    private static final int RANK_BLOCKING = 0;
    private static final int RANK_WAIVABLE = 1;
    private static final int RANK_WARNING = 2;

    private final Version[] versions = new Version[MOST_VERSIONS];
    private final int[] heads = new int[MOST_BRANCHES];
    private final int[] shownVersions = new int[MOST_BRANCHES];
    private final Rule[] rules = new Rule[MOST_RULES];
    private final Waiver[] waivers = new Waiver[MOST_WAIVERS];
    /** The deck of a merge is built here, so that a merge that is refused changes no version. */
    private final Deck trial = new Deck();
    private int versionCount;
    private int branchCount;
    private int slideCount;
    private int ruleCount;
    private int waiverCount;
    private int day;

    public Slidewarden() {
        for (int number = 0; number < MOST_VERSIONS; number++) {
            versions[number] = new Version();
        }
        for (int number = 0; number < MOST_RULES; number++) {
            rules[number] = new Rule();
        }
        for (int number = 0; number < MOST_WAIVERS; number++) {
            waivers[number] = new Waiver();
        }
        for (int number = 0; number < MOST_BRANCHES; number++) {
            shownVersions[number] = NONE;
        }
        versions[0].ancestors = 1L;
        versionCount = 1;
        branchCount = 1;
    }

    // ---- decks

    public int branch(int version) throws IndexOutOfBoundsException, IllegalStateException {
        checkVersion(version);
        if (branchCount >= MOST_BRANCHES) {
            throw new IllegalStateException("there are 6 branches");
        }
        int number = branchCount;
        heads[number] = version;
        branchCount = number + 1;
        return number;
    }

    public int add(int branch, int place) throws IndexOutOfBoundsException, IllegalStateException {
        checkBranch(branch);
        int size = headDeck(branch).size;
        if (place < 0 || place > size) {
            throw new IndexOutOfBoundsException("no such place");
        }
        if (size >= DECK_SLIDES) {
            throw new IllegalStateException("the head has 8 slides");
        }
        if (slideCount >= MOST_SLIDES) {
            throw new IllegalStateException("there were 20 slides");
        }
        checkRoomForVersion();
        int slide = slideCount;
        slideCount = slide + 1;
        makeVersion(branch, NONE).insert(place, slide);
        return slide;
    }

    public int set(int branch, int slide, int object, int value)
            throws IndexOutOfBoundsException, IllegalArgumentException, IllegalStateException {
        checkBranch(branch);
        int place = placeInHead(branch, slide);
        checkObject(object);
        if (value < 0 || value > MOST_VALUE) {
            throw new IllegalArgumentException("the value is out of range");
        }
        checkRoomForVersion();
        Deck deck = makeVersion(branch, NONE);
        int before = deck.valueAt(place, object);
        deck.put(place, object, value);
        return before;
    }

    public int drop(int branch, int slide) throws IndexOutOfBoundsException, IllegalStateException {
        checkBranch(branch);
        int place = placeInHead(branch, slide);
        checkRoomForVersion();
        makeVersion(branch, NONE).removeAt(place);
        return heads[branch];
    }

    public int head(int branch) throws IndexOutOfBoundsException {
        checkBranch(branch);
        return heads[branch];
    }

    public int about(int version, int what) throws IndexOutOfBoundsException, IllegalArgumentException {
        checkVersion(version);
        Version told = versions[version];
        switch (what) {
            case 0:
                return told.madeOn;
            case 1:
                return told.cameFrom;
            case 2:
                return told.mergedFrom;
            case 3:
                return told.deck.size;
            case 4:
                return Long.bitCount(told.ancestors);
            default:
                throw new IllegalArgumentException("what is out of range");
        }
    }

    public int value(int version, int slide, int object) throws IndexOutOfBoundsException {
        checkVersion(version);
        checkSlide(slide);
        checkObject(object);
        return versions[version].deck.valueOf(slide, object);
    }

    public int slideAt(int version, int place) throws IndexOutOfBoundsException {
        checkVersion(version);
        if (place < 0) {
            throw new IndexOutOfBoundsException("the place is below 0");
        }
        Deck deck = versions[version].deck;
        return place < deck.size ? deck.slides[place] : NONE;
    }

    // ---- merges

    public int base(int into, int from) throws IndexOutOfBoundsException, IllegalArgumentException {
        checkBranch(into);
        checkBranch(from);
        checkDifferent(into, from);
        return baseOf(into, from);
    }

    public int clashes(int into, int from) throws IndexOutOfBoundsException, IllegalArgumentException {
        checkBranch(into);
        checkBranch(from);
        checkDifferent(into, from);
        return mergeOf(into, from).countClashes(slideCount);
    }

    public int merged(int into, int from, int slide, int object, int settled)
            throws IndexOutOfBoundsException, IllegalArgumentException {
        checkBranch(into);
        checkBranch(from);
        checkSlide(slide);
        checkObject(object);
        checkDifferent(into, from);
        if (settled != OURS && settled != THEIRS) {
            throw new IllegalArgumentException("settled is out of range");
        }
        return mergeOf(into, from).resultOf(slide, object, settled);
    }

    public int merge(int into, int from, int settled)
            throws IndexOutOfBoundsException, IllegalArgumentException, IllegalStateException {
        checkBranch(into);
        checkBranch(from);
        checkDifferent(into, from);
        if (settled != OURS && settled != THEIRS && settled != NONE) {
            throw new IllegalArgumentException("settled is out of range");
        }
        Merge merge = mergeOf(into, from);
        if (settled == NONE && merge.countClashes(slideCount) > 0) {
            throw new IllegalStateException("there are clashes that are not settled");
        }
        if (merge.countSlides(slideCount, settled) > DECK_SLIDES) {
            throw new IllegalStateException("the deck would have more than 8 slides");
        }
        merge.fill(trial, settled);
        if (countBlocks(trial) > 0) {
            throw new IllegalStateException("the deck would be blocked");
        }
        checkRoomForVersion();
        makeVersion(into, heads[from]).copyFrom(trial);
        return heads[into];
    }

    // ---- rules, waivers

    public int rule(int rank, int object, int least, int most)
            throws IndexOutOfBoundsException, IllegalArgumentException, IllegalStateException {
        if (rank < 0 || rank >= RANKS) {
            throw new IndexOutOfBoundsException("no such rank");
        }
        checkObject(object);
        if (least < 1 || least > MOST_VALUE || most < least || most > MOST_VALUE) {
            throw new IllegalArgumentException("least or most is out of range");
        }
        if (ruleCount >= MOST_RULES) {
            throw new IllegalStateException("there are 8 rules");
        }
        int number = ruleCount;
        Rule told = rules[number];
        told.rank = rank;
        told.object = object;
        told.least = least;
        told.most = most;
        ruleCount = number + 1;
        return number;
    }

    public int tighten(int rule, int least, int most)
            throws IndexOutOfBoundsException, IllegalArgumentException {
        checkRule(rule);
        Rule tightened = rules[rule];
        if (least < tightened.least || most > tightened.most || most < least) {
            throw new IllegalArgumentException("least or most is out of range");
        }
        long blockedBefore = blockedVersions();
        tightened.least = least;
        tightened.most = most;
        return Long.bitCount(blockedVersions() & ~blockedBefore);
    }

    public int waive(int rule, int slide, int until)
            throws IndexOutOfBoundsException, IllegalArgumentException, IllegalStateException {
        checkRule(rule);
        checkSlide(slide);
        if (until < day || until > LAST_DAY) {
            throw new IllegalArgumentException("until is out of range");
        }
        if (rules[rule].rank != RANK_WAIVABLE) {
            throw new IllegalStateException("the rank of the rule is not 1");
        }
        if (waiverCount >= MOST_WAIVERS) {
            throw new IllegalStateException("there are 12 waivers");
        }
        int number = waiverCount;
        Waiver waiver = waivers[number];
        waiver.rule = rule;
        waiver.slide = slide;
        waiver.until = until;
        waiverCount = number + 1;
        return number;
    }

    public int blocks(int version) throws IndexOutOfBoundsException {
        checkVersion(version);
        return countBlocks(versions[version].deck);
    }

    public int warnings(int version) throws IndexOutOfBoundsException {
        checkVersion(version);
        Deck deck = versions[version].deck;
        int count = 0;
        for (int place = 0; place < deck.size; place++) {
            for (int rule = 0; rule < ruleCount; rule++) {
                if (rules[rule].rank == RANK_WARNING && rules[rule].isBrokenAt(deck, place)) {
                    count++;
                }
            }
        }
        return count;
    }

    public int firstBlock(int version) throws IndexOutOfBoundsException {
        checkVersion(version);
        Deck deck = versions[version].deck;
        for (int place = 0; place < deck.size; place++) {
            if (countBlocksAt(deck, place) > 0) {
                return deck.slides[place];
            }
        }
        return NONE;
    }

    // ---- shows, days

    public int show(int branch) throws IndexOutOfBoundsException, IllegalStateException {
        checkBranch(branch);
        if (countBlocks(headDeck(branch)) > 0) {
            throw new IllegalStateException("the head is blocked");
        }
        shownVersions[branch] = heads[branch];
        return heads[branch];
    }

    public int shown(int branch) throws IndexOutOfBoundsException {
        checkBranch(branch);
        int version = shownVersions[branch];
        if (version == NONE || countBlocks(versions[version].deck) > 0) {
            return NONE;
        }
        return version;
    }

    public int pass(int days) throws IllegalArgumentException, IllegalStateException {
        if (days < 1 || days > MOST_DAYS) {
            throw new IllegalArgumentException("days is out of range");
        }
        if (day + days > LAST_DAY) {
            throw new IllegalStateException("the day would be above 999");
        }
        day += days;
        return day;
    }

    // ---- what calls ask for before they do anything

    private void checkVersion(int version) {
        if (version < 0 || version >= versionCount) {
            throw new IndexOutOfBoundsException("no such version");
        }
    }

    private void checkBranch(int branch) {
        if (branch < 0 || branch >= branchCount) {
            throw new IndexOutOfBoundsException("no such branch");
        }
    }

    private void checkSlide(int slide) {
        if (slide < 0 || slide >= slideCount) {
            throw new IndexOutOfBoundsException("no such slide");
        }
    }

    private static void checkObject(int object) {
        if (object < 0 || object >= OBJECTS) {
            throw new IndexOutOfBoundsException("no such object");
        }
    }

    private void checkRule(int rule) {
        if (rule < 0 || rule >= ruleCount) {
            throw new IndexOutOfBoundsException("no such rule");
        }
    }

    private static void checkDifferent(int into, int from) {
        if (into == from) {
            throw new IllegalArgumentException("both branches are the same");
        }
    }

    private void checkRoomForVersion() {
        if (versionCount >= MOST_VERSIONS) {
            throw new IllegalStateException("there are 40 versions");
        }
    }

    private int placeInHead(int branch, int slide) {
        int place = headDeck(branch).placeOf(slide);
        if (place == NONE) {
            throw new IndexOutOfBoundsException("no such slide in the head");
        }
        return place;
    }

    // ---- versions

    private Deck headDeck(int branch) {
        return versions[heads[branch]].deck;
    }

    /** Makes the next version, the head of the branch then, and returns its deck: a copy of the head's. */
    private Deck makeVersion(int branch, int mergedFrom) {
        int number = versionCount;
        int head = heads[branch];
        Version made = versions[number];
        made.madeOn = branch;
        made.cameFrom = head;
        made.mergedFrom = mergedFrom;
        made.ancestors = versions[head].ancestors | (1L << number);
        if (mergedFrom != NONE) {
            made.ancestors |= versions[mergedFrom].ancestors;
        }
        made.deck.copyFrom(versions[head].deck);
        heads[branch] = number;
        versionCount = number + 1;
        return made.deck;
    }

    private int baseOf(int into, int from) {
        long common = versions[heads[into]].ancestors & versions[heads[from]].ancestors;
        int version = versionCount - 1;
        // The version 0 is an ancestor of all, so there is no need to look at it.
        while (version > 0 && (common >> version & 1L) == 0L) {
            version--;
        }
        return version;
    }

    private Merge mergeOf(int into, int from) {
        return new Merge(versions[baseOf(into, from)].deck, headDeck(into), headDeck(from));
    }

    // ---- what a deck is blocked by

    private int countBlocks(Deck deck) {
        int count = 0;
        for (int place = 0; place < deck.size; place++) {
            count += countBlocksAt(deck, place);
        }
        return count;
    }

    private int countBlocksAt(Deck deck, int place) {
        int count = 0;
        for (int rule = 0; rule < ruleCount; rule++) {
            if (rules[rule].isBrokenAt(deck, place) && isBlocking(rule, deck.slides[place])) {
                count++;
            }
        }
        return count;
    }

    /** Whether a break of the rule by the slide blocks today. */
    private boolean isBlocking(int rule, int slide) {
        int rank = rules[rule].rank;
        return rank == RANK_BLOCKING || rank == RANK_WAIVABLE && !isWaived(rule, slide);
    }

    private boolean isWaived(int rule, int slide) {
        for (int number = 0; number < waiverCount; number++) {
            Waiver waiver = waivers[number];
            if (waiver.rule == rule && waiver.slide == slide && waiver.until >= day) {
                return true;
            }
        }
        return false;
    }

    /** The versions that are blocked today, a bit for each. */
    private long blockedVersions() {
        long blocked = 0L;
        for (int version = 0; version < versionCount; version++) {
            if (countBlocks(versions[version].deck) > 0) {
                blocked |= 1L << version;
            }
        }
        return blocked;
    }

    /** A version: its deck, and where it came from. */
    private static final class Version {
        final Deck deck = new Deck();
        int madeOn;
        int cameFrom = NONE;
        int mergedFrom = NONE;
        /** A bit for each version that is an ancestor, this one with them. */
        long ancestors;
    }

    /** A row of slides by place, and the values of their objects. */
    private static final class Deck {
        final int[] slides = new int[DECK_SLIDES];
        /** OBJECTS values for each place. */
        private final int[] values = new int[DECK_SLIDES * OBJECTS];
        int size;

        /** The place of a slide, NONE if the deck does not have it. */
        int placeOf(int slide) {
            for (int place = 0; place < size; place++) {
                if (slides[place] == slide) {
                    return place;
                }
            }
            return NONE;
        }

        boolean has(int slide) {
            return placeOf(slide) != NONE;
        }

        int valueAt(int place, int object) {
            return values[place * OBJECTS + object];
        }

        /** The value of a slide's object, NONE if the deck does not have the slide. */
        int valueOf(int slide, int object) {
            int place = placeOf(slide);
            return place == NONE ? NONE : valueAt(place, object);
        }

        /** Whether both decks have the slide, with all objects alike. */
        boolean isAlike(Deck other, int slide) {
            int place = placeOf(slide);
            int otherPlace = other.placeOf(slide);
            if (place == NONE || otherPlace == NONE) {
                return false;
            }
            for (int object = 0; object < OBJECTS; object++) {
                if (valueAt(place, object) != other.valueAt(otherPlace, object)) {
                    return false;
                }
            }
            return true;
        }

        void put(int place, int object, int value) {
            values[place * OBJECTS + object] = value;
        }

        /** Puts a slide without objects at a place; there has to be room for it. */
        void insert(int place, int slide) {
            for (int behind = size; behind > place; behind--) {
                move(behind - 1, behind);
            }
            slides[place] = slide;
            for (int object = 0; object < OBJECTS; object++) {
                put(place, object, 0);
            }
            size++;
        }

        void removeAt(int place) {
            for (int behind = place + 1; behind < size; behind++) {
                move(behind, behind - 1);
            }
            size--;
        }

        private void move(int place, int to) {
            slides[to] = slides[place];
            for (int object = 0; object < OBJECTS; object++) {
                put(to, object, valueAt(place, object));
            }
        }

        void copyFrom(Deck other) {
            System.arraycopy(other.slides, 0, slides, 0, slides.length);
            System.arraycopy(other.values, 0, values, 0, values.length);
            size = other.size;
        }
    }

    /** What becomes of the slides and objects of two heads and their base. */
    private static final class Merge {
        private final Deck old;
        private final Deck ours;
        private final Deck theirs;

        Merge(Deck old, Deck ours, Deck theirs) {
            this.old = old;
            this.ours = ours;
            this.theirs = theirs;
        }

        int countClashes(int slides) {
            int count = 0;
            for (int slide = 0; slide < slides; slide++) {
                if (isSlideClash(slide)) {
                    count++;
                }
                for (int object = 0; object < OBJECTS; object++) {
                    if (isObjectClash(slide, object)) {
                        count++;
                    }
                }
            }
            return count;
        }

        /** How many slides the merged deck would have, which may be more than a deck has room for. */
        int countSlides(int slides, int settled) {
            int count = 0;
            for (int slide = 0; slide < slides; slide++) {
                if (isKept(slide, settled)) {
                    count++;
                }
            }
            return count;
        }

        /** The value of an object in the merged deck, NONE if that would not have the slide. */
        int resultOf(int slide, int object, int settled) {
            return isKept(slide, settled) ? keptValue(slide, object, settled) : NONE;
        }

        private int keptValue(int slide, int object, int settled) {
            if (!theirs.has(slide)) {
                return ours.valueOf(slide, object);
            }
            if (!ours.has(slide)) {
                return theirs.valueOf(slide, object);
            }
            int our = ours.valueOf(slide, object);
            int their = theirs.valueOf(slide, object);
            if (isObjectClash(slide, object)) {
                return settled == THEIRS ? their : our;
            }
            return our == old.valueOf(slide, object) ? their : our;
        }

        /** Makes the merged deck; the deck has to have room for all its slides. */
        void fill(Deck made, int settled) {
            made.size = 0;
            for (int place = 0; place < ours.size; place++) {
                int slide = ours.slides[place];
                if (isKept(slide, settled)) {
                    append(made, slide, settled);
                }
            }
            for (int place = 0; place < theirs.size; place++) {
                int slide = theirs.slides[place];
                if (!ours.has(slide) && isKept(slide, settled)) {
                    append(made, slide, settled);
                }
            }
        }

        private void append(Deck made, int slide, int settled) {
            int place = made.size;
            made.insert(place, slide);
            for (int object = 0; object < OBJECTS; object++) {
                made.put(place, object, keptValue(slide, object, settled));
            }
        }

        /** Whether the merged deck has the slide. */
        private boolean isKept(int slide, int settled) {
            boolean inOurs = ours.has(slide);
            boolean inTheirs = theirs.has(slide);
            if (inOurs == inTheirs || !old.has(slide)) {
                return inOurs || inTheirs;
            }
            return isSlideClash(slide) && (settled == THEIRS ? inTheirs : inOurs);
        }

        /** Whether one head dropped the slide and the other one changed it. */
        private boolean isSlideClash(int slide) {
            boolean inOurs = ours.has(slide);
            if (inOurs == theirs.has(slide) || !old.has(slide)) {
                return false;
            }
            return !old.isAlike(inOurs ? ours : theirs, slide);
        }

        private boolean isObjectClash(int slide, int object) {
            if (!ours.has(slide) || !theirs.has(slide)) {
                return false;
            }
            int our = ours.valueOf(slide, object);
            int their = theirs.valueOf(slide, object);
            // NONE, if the base does not have the slide: no value is like that.
            int before = old.valueOf(slide, object);
            return our != their && our != before && their != before;
        }
    }

    /** A rule of a rank: what an object's value has to be, if it is there. */
    private static final class Rule {
        int rank;
        int object;
        int least;
        int most;

        boolean isBrokenAt(Deck deck, int place) {
            int value = deck.valueAt(place, object);
            return value != 0 && (value < least || value > most);
        }
    }

    /** A waiver of a rule for a slide, until a day, that day with it. */
    private static final class Waiver {
        int rule;
        int slide;
        int until;
    }
}
