import java.util.NoSuchElementException;

/** A town in which one gets a thing only for some of one's own. See README.md. */
public final class TwoForOne {
    public static final int NONE = -1;

    private static final int SPENT = -2;
    private static final int MOST_PEOPLE = 6;
    private static final int MOST_SORTS = 8;
    private static final int CELLS = MOST_PEOPLE * MOST_SORTS;
    private static final int MOST_TIES = 4;
    private static final int MOST_MEETINGS = 8;
    private static final int MOST_PAIRS = 6;
    private static final int MOST_GIVEN = 3;
    /** Rows of three sorts of eight, in order: no law has more. */
    private static final int MOST_OFFERS = 120;
    private static final int TAPE = 700;
    private static final int MOST_DAYS = 60;
    private static final int MOST_STATES = 1000;
    private static final int POOR_STATES = 300;
    private static final int POOR_BAGS = 100;
    private static final int ALL_STATES = 400;
    private static final int ORDERED_MEETINGS = 5;
    private static final int ORDERS = 120;
    private static final int THOUGHTS = 3000;
    private static final int STILL_DAYS = 10;
    private static final int SHARINGS = 1500;
    private static final int LAWS = 6;
    private static final int RUN_MEETINGS = 400;
    private static final int HEADS = 1024;
    /** Where worth never falls, so many things of a sort there never are. */
    private static final int NEVER_FULL = 1000000;
    /** A step is one int: trades below this, ties from it on. */
    private static final int FIRST_TIE = MOST_PEOPLE * MOST_PEOPLE * MOST_OFFERS * MOST_SORTS;

    private static final int AT_END = 0;
    private static final int AT_SIGN = 1;
    private static final int AT_NUMBER = 2;
    private static final int AT_NOTHING = 3;
    private static final int AT_SORTS = 4;
    private static final int AT_PERSON = 5;
    private static final int AT_HAS = 6;
    private static final int AT_WORTH = 7;
    private static final int AT_PAIR = 8;
    private static final int AT_FALLS = 9;
    private static final int AT_LAW = 10;
    private static final int AT_SPOON = 11;
    private static final int AT_BURNS = 12;
    private static final int AT_TIE = 13;
    private static final int AT_MEET = 14;
    private static final int WORDS = 11;

    private final byte[] tape = new byte[TAPE];
    private int taped;
    private Town town;
    private Town draft;
    private int faultPlace;
    private int textsRefused;
    private int tradesRefused;
    private int tiesRefused;
    private final Reader reader;
    private final Market now;
    private final Market trial;
    private final Law otherLaw;
    private final Search search;
    private final Foresight foresight;
    private final Purse purse;
    private final Sharing sharing;
    private final Orders orders;
    private final Kept kept;

    public TwoForOne() {
        town = new Town();
        draft = new Town();
        faultPlace = NONE;
        reader = new Reader(new Tokens(tape), draft);
        now = new Market(town);
        trial = new Market(town);
        otherLaw = new Law();
        search = new Search(new Market(town));
        foresight = new Foresight(new Market(town));
        purse = new Purse();
        sharing = new Sharing();
        orders = new Orders();
        kept = new Kept();
    }

    public int feed(int a, int b, int c, int d, int e) {
        if (taped + 20 > TAPE) {
            return NONE;
        }
        put(a);
        put(b);
        put(c);
        put(d);
        put(e);
        return taped;
    }

    public int town(int n) throws IllegalArgumentException {
        if (n < 0 || n > taped) {
            throw new IllegalArgumentException("the tape has not so many bytes");
        }
        taped = 0;
        int wrong = reader.readTown(draft, n);
        if (wrong != 0) {
            faultPlace = reader.place;
            textsRefused++;
            return wrong;
        }
        faultPlace = NONE;
        Town told = draft;
        draft = town;
        town = told;
        now.settleIn(told);
        kept.forget();
        return 0;
    }

    public int fault() {
        return faultPlace;
    }

    public int count(int what) throws NoSuchElementException {
        switch (what) {
            case 0: return town.people;
            case 1: return town.sorts;
            case 2: return town.law.gives;
            case 3: return town.law.spoon;
            case 4: return town.law.burns ? 1 : 0;
            case 5: return town.ties;
            case 6: return town.meetings;
            case 7: return taped;
            case 8: return now.things();
            case 9: return textsRefused;
            case 10: return tradesRefused;
            case 11: return tiesRefused;
            default: throw new NoSuchElementException("no such count");
        }
    }

    public int has(int person, int sort) throws NoSuchElementException {
        if (isNoCell(person, sort)) {
            throw new NoSuchElementException("no such person or sort");
        }
        return now.row[person * MOST_SORTS + sort];
    }

    public int likes(int person, int sort) throws NoSuchElementException {
        if (isNoCell(person, sort)) {
            throw new NoSuchElementException("no such person or sort");
        }
        return town.worths[person * MOST_SORTS + sort];
    }

    public int worth(int person) throws NoSuchElementException {
        if (person == NONE) {
            return now.allWorth();
        }
        if (isNobody(person)) {
            throw new NoSuchElementException("no such person");
        }
        return now.bagWorth(person);
    }

    public int left(int sort) throws NoSuchElementException {
        if (isNoSort(sort)) {
            throw new NoSuchElementException("no such sort");
        }
        return now.thingsOf(sort);
    }

    public int meeting(int meeting, int what) throws NoSuchElementException {
        if (meeting < 0 || meeting >= town.meetings) {
            throw new NoSuchElementException("no such meeting");
        }
        if (what != 0 && what != 1) {
            throw new NoSuchElementException("a meeting has a first and a second one");
        }
        return what == 0 ? town.meetFirst[meeting] : town.meetSecond[meeting];
    }

    public int look(int a, int b, int given, int z, int what)
            throws NoSuchElementException, IllegalArgumentException {
        int offer = town.law.offerOf(given);
        if (isNoTwo(a, b) || isNoSort(z) || offer == NONE || what < 0 || what > 3) {
            throw new NoSuchElementException("no such trade, or nothing of it");
        }
        boolean lawful = now.isLawful(a, b, offer, z);
        if (what == 0) {
            return lawful ? 1 : 0;
        }
        if (!lawful) {
            throw new IllegalArgumentException("the trade is not lawful");
        }
        trial.take(now);
        trial.deal(a, b, offer, z, 1);
        int gainOfA = trial.bagWorth(a) - now.bagWorth(a);
        int gainOfB = trial.bagWorth(b) - now.bagWorth(b);
        if (what == 1) {
            return gainOfA;
        }
        if (what == 2) {
            return gainOfB;
        }
        return gainOfA > 0 && gainOfB > 0 ? gainOfA + gainOfB : 0;
    }

    public boolean trade(int a, int b, int given, int z) throws NoSuchElementException {
        int offer = town.law.offerOf(given);
        if (isNoTwo(a, b) || isNoSort(z) || offer == NONE) {
            throw new NoSuchElementException("no such trade");
        }
        if (!now.isLawful(a, b, offer, z)) {
            tradesRefused++;
            return false;
        }
        now.deal(a, b, offer, z, 1);
        return true;
    }

    public boolean tie(int person, int tie) throws NoSuchElementException {
        if (isNobody(person) || tie < 0 || tie >= town.ties) {
            throw new NoSuchElementException("no such person or tie");
        }
        if (!now.canTie(person, tie)) {
            tiesRefused++;
            return false;
        }
        now.knot(person, tie, 1);
        return true;
    }

    public int come(int person, int sort) throws NoSuchElementException {
        if (isNoCell(person, sort)) {
            throw new NoSuchElementException("no such person or sort");
        }
        int state = search.findWish(now, person, sort, MOST_STATES);
        if (state < 0) {
            return state;
        }
        kept.wayLength = search.unwind(state, kept.way);
        return kept.wayLength;
    }

    public int step(int i, int what) throws NoSuchElementException {
        if (i < 0 || i >= kept.wayLength || what < 0 || what > 3) {
            throw new NoSuchElementException("no such step, or nothing of it");
        }
        int code = kept.way[i];
        return code < FIRST_TIE ? partOfTrade(code, what) : partOfTie(code - FIRST_TIE, what);
    }

    public int poor(int person, int sort) throws NoSuchElementException {
        if (isNoCell(person, sort)) {
            throw new NoSuchElementException("no such person or sort");
        }
        int tried = 0;
        purse.open(now, person);
        for (int number = 0; number <= purse.things; number++) {
            purse.fill(0, number);
            boolean more = true;
            for (int k = 0; k <= POOR_BAGS && more; k++) {
                if (tried >= POOR_BAGS) {
                    return SPENT;
                }
                tried++;
                trial.takeBag(now, person, purse.part);
                int state = search.findWish(trial, person, sort, POOR_STATES);
                if (state == SPENT) {
                    return SPENT;
                }
                if (state >= 0) {
                    kept.keepBag(purse.part);
                    return number;
                }
                more = purse.goOn();
            }
        }
        return NONE;
    }

    public int bag(int sort) throws NoSuchElementException {
        if (!kept.hasBag || isNoSort(sort)) {
            throw new NoSuchElementException("no bag is kept, or no such sort");
        }
        return kept.bag[sort];
    }

    public int most() {
        int state = search.findMost(now, ALL_STATES);
        if (state < 0) {
            return SPENT;
        }
        kept.wayLength = search.unwind(state, kept.way);
        return search.worthOf(state);
    }

    public int freely() {
        int sum = 0;
        for (int sort = 0; sort < town.sorts; sort++) {
            sum += now.thingsOf(sort) * town.dearest(sort) * 100;
        }
        return sum + town.allPairs() * 100;
    }

    public int meet(int a, int b) throws NoSuchElementException {
        if (isNoTwo(a, b)) {
            throw new NoSuchElementException("no such two people");
        }
        return now.encounter(a, b);
    }

    public int days(int days) throws IllegalArgumentException {
        if (days < 0 || days > MOST_DAYS) {
            throw new IllegalArgumentException("0 to 60 days go by");
        }
        int trades = 0;
        for (int day = 0; day < days; day++) {
            trades += now.passDay(NONE);
        }
        return trades;
    }

    public int end(int what) throws NoSuchElementException {
        if (what < 0 || what >= 3 + town.people) {
            throw new NoSuchElementException("nothing such of the end");
        }
        trial.take(now);
        int changing = trial.passAllDays();
        switch (what) {
            case 0: return changing;
            case 1: return trial.things();
            case 2: return trial.allWorth();
            default: return trial.bagWorth(what - 3);
        }
    }

    public int order() {
        if (town.meetings > ORDERED_MEETINGS) {
            return NONE;
        }
        int greatest = NONE;
        orders.begin(town.meetings);
        boolean more = true;
        for (int k = 0; k < ORDERS && more; k++) {
            trial.take(now);
            trial.passOrdered(orders.row, town.meetings);
            int worth = trial.allWorth();
            if (worth > greatest) {
                greatest = worth;
                kept.keepOrder(orders.row, town.meetings);
            }
            more = orders.goOn();
        }
        return greatest;
    }

    public int ordered(int i) throws NoSuchElementException {
        if (i < 0 || i >= kept.orderLength) {
            throw new NoSuchElementException("no such meeting of an order");
        }
        return kept.order[i];
    }

    public int ahead(int person) throws NoSuchElementException {
        if (isNobody(person)) {
            throw new NoSuchElementException("no such person");
        }
        return foresight.foresee(now) ? foresight.ends[0][person] : SPENT;
    }

    public int still(int person, int d, int what)
            throws NoSuchElementException, IllegalArgumentException {
        if (isNobody(person) || (what != 0 && what != 1)) {
            throw new NoSuchElementException("no such person, or nothing of it");
        }
        if (d < 1 || d > STILL_DAYS) {
            throw new IllegalArgumentException("1 to 10 days go by with him");
        }
        int greatest = NONE;
        int waits = 0;
        for (int w = 0; w <= STILL_DAYS; w++) {
            int worth = worthAfterWaiting(person, w, d);
            if (worth > greatest) {
                greatest = worth;
                waits = w;
            }
        }
        return what == 0 ? waits : greatest;
    }

    public int share(int what) throws NoSuchElementException {
        if (what != 0 && what != 1) {
            throw new NoSuchElementException("a share has a least worth and one of all");
        }
        if (town.people < 1) {
            return NONE;
        }
        sharing.begin(now);
        int ways = sharing.ways();
        if (ways > SHARINGS) {
            return SPENT;
        }
        int least = NONE;
        int all = NONE;
        for (int k = 0; k < ways; k++) {
            trial.takeRow(now, sharing.row);
            trial.passDay(NONE);
            int worth = trial.allWorth();
            int poorest = trial.leastWorth();
            if (poorest > least || (poorest == least && worth > all)) {
                least = poorest;
                all = worth;
                kept.keepShare(sharing.row);
            }
            sharing.goOn();
        }
        return what == 0 ? least : all;
    }

    public int shared(int person, int sort) throws NoSuchElementException {
        if (!kept.hasShare || isNoCell(person, sort)) {
            throw new NoSuchElementException("no share is kept, or no such person or sort");
        }
        return kept.share[person * MOST_SORTS + sort];
    }

    public int law(int law, int what) throws NoSuchElementException {
        if (law < 0 || law >= LAWS || (what != 0 && what != 1)) {
            throw new NoSuchElementException("no such law, or nothing of it");
        }
        goUnderLaw(law);
        return what == 0 ? trial.things() : trial.allWorth();
    }

    public int best() {
        int greatest = NONE;
        int bestLaw = 0;
        for (int law = 0; law < LAWS; law++) {
            goUnderLaw(law);
            int worth = trial.allWorth();
            if (worth > greatest) {
                greatest = worth;
                bestLaw = law;
            }
        }
        return bestLaw;
    }

    public int run(int meetings, int seed) throws IllegalArgumentException {
        if (meetings < 0 || meetings > RUN_MEETINGS || town.people < 2) {
            throw new IllegalArgumentException("0 to 400 meetings of two people");
        }
        int trades = 0;
        int drawn = seed;
        for (int k = 0; k < meetings; k++) {
            drawn = nextSeed(drawn);
            int a = draw(drawn, town.people);
            drawn = nextSeed(drawn);
            int b = draw(drawn, town.people - 1);
            if (b >= a) {
                b++;
            }
            if (now.encounter(a, b) > 0) {
                trades++;
            }
        }
        return trades;
    }

    public void image() {
        System.arraycopy(now.row, 0, kept.image, 0, CELLS);
        kept.hasImage = true;
    }

    public boolean restore() {
        if (!kept.hasImage) {
            return false;
        }
        System.arraycopy(kept.image, 0, now.row, 0, CELLS);
        return true;
    }

    private boolean isNobody(int person) {
        return person < 0 || person >= town.people;
    }

    private boolean isNoSort(int sort) {
        return sort < 0 || sort >= town.sorts;
    }

    private boolean isNoCell(int person, int sort) {
        return isNobody(person) || isNoSort(sort);
    }

    private boolean isNoTwo(int a, int b) {
        return isNobody(a) || isNobody(b) || a == b;
    }

    private void put(int number) {
        for (int shift = 24; shift >= 0 && taped < TAPE; shift -= 8) {
            tape[taped] = (byte) (number >>> shift);
            taped++;
        }
    }

    private int partOfTrade(int code, int what) {
        int z = code % MOST_SORTS;
        int rest = code / MOST_SORTS;
        int offer = rest % MOST_OFFERS;
        int two = rest / MOST_OFFERS;
        switch (what) {
            case 0: return two / MOST_PEOPLE;
            case 1: return two % MOST_PEOPLE;
            case 2: return town.law.numbers[offer];
            default: return z;
        }
    }

    private static int partOfTie(int code, int what) {
        if (what == 0) {
            return code / MOST_TIES;
        }
        return what == 2 ? code % MOST_TIES : NONE;
    }

    private int worthAfterWaiting(int person, int waits, int d) {
        trial.take(now);
        for (int day = 0; day < waits; day++) {
            trial.passDay(person);
        }
        for (int day = 0; day < d; day++) {
            trial.passDay(NONE);
        }
        return trial.bagWorth(person);
    }

    private void goUnderLaw(int law) {
        otherLaw.gives = law / 2 + 1;
        otherLaw.burns = law % 2 == 1;
        otherLaw.spoon = town.law.spoon;
        otherLaw.makeOffers(town.sorts);
        trial.take(now);
        trial.law = otherLaw;
        trial.passAllDays();
    }

    private static int nextSeed(int seed) {
        return seed * 1103515245 + 12345;
    }

    private static int draw(int seed, int n) {
        return n > 0 ? ((seed >>> 16) & 0x7fff) % n : 0;
    }

    /** What one gives for one thing; its offers are all rows of given sorts, in order. */
    private static final class Law {
        int gives = 2;
        int spoon = NONE;
        boolean burns;
        int offers;
        final int[] things = new int[MOST_OFFERS * MOST_GIVEN];
        final int[] numbers = new int[MOST_OFFERS];
        final int[] keeps = new int[MOST_OFFERS];
        /** A bit for each sort that is given. */
        final int[] masks = new int[MOST_OFFERS];
        final boolean[] spooned = new boolean[MOST_OFFERS];

        void makeOffers(int sorts) {
            offers = 0;
            for (int x = 0; x < sorts; x++) {
                int lastY = gives > 1 ? sorts - 1 : x;
                for (int y = x; y <= lastY; y++) {
                    int lastZ = gives > 2 ? sorts - 1 : y;
                    for (int z = y; z <= lastZ; z++) {
                        addOffer(x, y, z);
                    }
                }
            }
        }

        private void addOffer(int x, int y, int z) {
            if (offers >= MOST_OFFERS) {
                return;
            }
            int from = offers * MOST_GIVEN;
            things[from] = x;
            things[from + 1] = y;
            things[from + 2] = z;
            int number = 0;
            int keep = NONE;
            int mask = 0;
            boolean hasSpoon = spoon == NONE;
            for (int j = 0; j < gives && j < MOST_GIVEN; j++) {
                int thing = things[from + j];
                number = number * 9 + thing + 1;
                mask |= 1 << thing;
                hasSpoon = hasSpoon || thing == spoon;
                if (keep == NONE && thing != spoon) {
                    keep = thing;
                }
            }
            numbers[offers] = number;
            keeps[offers] = keep == NONE ? x : keep;
            masks[offers] = mask;
            spooned[offers] = hasSpoon;
            offers++;
        }

        int offerOf(int number) {
            for (int offer = 0; offer < offers; offer++) {
                if (numbers[offer] == number) {
                    return offer;
                }
            }
            return NONE;
        }
    }

    /** All that a text tells; who has what at first among it. */
    private static final class Town {
        int people;
        int sorts;
        int ties;
        int meetings;
        final int[] haves = new int[CELLS];
        final int[] worths = new int[CELLS];
        final int[] falls = new int[MOST_PEOPLE];
        final int[] pairs = new int[MOST_PEOPLE];
        final int[] pairFirst = new int[MOST_PEOPLE * MOST_PAIRS];
        final int[] pairSecond = new int[MOST_PEOPLE * MOST_PAIRS];
        final int[] pairWorth = new int[MOST_PEOPLE * MOST_PAIRS];
        final int[] tieFirst = new int[MOST_TIES];
        final int[] tieSecond = new int[MOST_TIES];
        final int[] tieMakes = new int[MOST_TIES];
        final int[] meetFirst = new int[MOST_MEETINGS];
        final int[] meetSecond = new int[MOST_MEETINGS];
        final Law law = new Law();

        Town() {
            clear();
            law.makeOffers(sorts);
        }

        void clear() {
            people = 0;
            sorts = 1;
            ties = 0;
            meetings = 0;
            for (int cell = 0; cell < CELLS; cell++) {
                haves[cell] = 0;
                worths[cell] = 0;
            }
            for (int person = 0; person < MOST_PEOPLE; person++) {
                falls[person] = 0;
                pairs[person] = 0;
            }
            law.gives = 2;
            law.spoon = NONE;
            law.burns = false;
        }

        int dearest(int sort) {
            int most = 0;
            for (int person = 0; person < people; person++) {
                most = Math.max(most, worths[person * MOST_SORTS + sort]);
            }
            return most;
        }

        int allPairs() {
            int sum = 0;
            for (int person = 0; person < people; person++) {
                int from = person * MOST_PAIRS;
                for (int k = 0; k < pairs[person]; k++) {
                    sum += pairWorth[from + k];
                }
            }
            return sum;
        }
    }

    /** The text cut into tokens, the last of them its end. */
    private static final class Tokens {
        private final byte[] text;
        private int length;
        private int at;
        private int size;
        final int[] kinds = new int[TAPE + 1];
        final int[] places = new int[TAPE + 1];
        /** Of a number; below 0 if it is too long. */
        final int[] values = new int[TAPE + 1];

        Tokens(byte[] text) {
            this.text = text;
        }

        void cut(int n) {
            length = n < text.length ? n : text.length;
            at = 0;
            size = 0;
            passBlanks();
            while (at < length && size < TAPE) {
                places[size] = at;
                kinds[size] = takeToken();
                size++;
                passBlanks();
            }
            places[size] = length;
            kinds[size] = AT_END;
        }

        private void passBlanks() {
            while (at < length && (text[at] == 32 || text[at] == 10)) {
                at++;
            }
        }

        private int takeToken() {
            int sign = text[at];
            if (sign >= '0' && sign <= '9') {
                return takeNumber();
            }
            if (sign >= 'a' && sign <= 'z') {
                return takeWord();
            }
            at++;
            return sign == ';' ? AT_SIGN : AT_NOTHING;
        }

        private int takeNumber() {
            int from = at;
            int value = 0;
            while (at < length && text[at] >= '0' && text[at] <= '9') {
                if (at - from < 4) {
                    value = value * 10 + text[at] - '0';
                }
                at++;
            }
            values[size] = at - from > 4 ? NONE : value;
            return AT_NUMBER;
        }

        private int takeWord() {
            int from = at;
            while (at < length && text[at] >= 'a' && text[at] <= 'z') {
                at++;
            }
            for (int word = 0; word < WORDS; word++) {
                if (isWord(word, from)) {
                    return AT_SORTS + word;
                }
            }
            return AT_NOTHING;
        }

        private boolean isWord(int word, int from) {
            String name = wordOf(word);
            if (at - from != name.length()) {
                return false;
            }
            for (int i = 0; i < name.length(); i++) {
                if (text[from + i] != name.charAt(i)) {
                    return false;
                }
            }
            return true;
        }

        private static String wordOf(int word) {
            switch (AT_SORTS + word) {
                case AT_SORTS: return "sorts";
                case AT_PERSON: return "person";
                case AT_HAS: return "has";
                case AT_WORTH: return "worth";
                case AT_PAIR: return "pair";
                case AT_FALLS: return "falls";
                case AT_LAW: return "law";
                case AT_SPOON: return "spoon";
                case AT_BURNS: return "burns";
                case AT_TIE: return "tie";
                default: return "meet";
            }
        }
    }

    /** Reads a town from tokens; where it is wrong, place is left at the wrong one. */
    private static final class Reader {
        private final Tokens tokens;
        private Town town;
        private int behind;
        int place;
        private int kind;
        private int value;
        private int wrong;
        private boolean lawTold;
        private boolean fallsTold;
        private int hasTold;
        private int worthTold;

        Reader(Tokens tokens, Town town) {
            this.tokens = tokens;
            this.town = town;
        }

        int readTown(Town into, int n) {
            town = into;
            town.clear();
            tokens.cut(n);
            behind = 0;
            wrong = 0;
            lawTold = false;
            for (int line = 0; line <= TAPE && wrong == 0; line++) {
                advance();
                if (kind == AT_END) {
                    town.law.makeOffers(town.sorts);
                    return 0;
                }
                readLine(line);
            }
            return wrong;
        }

        private void readLine(int line) {
            switch (kind) {
                case AT_SORTS:
                    readSorts(line);
                    break;
                case AT_PERSON:
                    readPerson();
                    break;
                case AT_LAW:
                    readLaw();
                    break;
                case AT_TIE:
                    readTie();
                    break;
                case AT_MEET:
                    readMeeting();
                    break;
                default:
                    refuse(1);
            }
        }

        private void readSorts(int line) {
            if (line > 0) {
                refuse(5);
            } else if (isNumber(1, MOST_SORTS)) {
                town.sorts = value;
                isSign();
            }
        }

        private void readPerson() {
            int person = town.people;
            if (person >= MOST_PEOPLE) {
                refuse(2);
                return;
            }
            town.people++;
            hasTold = 0;
            worthTold = 0;
            fallsTold = false;
            boolean more = true;
            for (int k = 0; k <= TAPE && more && wrong == 0; k++) {
                advance();
                switch (kind) {
                    case AT_HAS:
                        hasTold = readOfSort(town.haves, person, hasTold, 20);
                        break;
                    case AT_WORTH:
                        worthTold = readOfSort(town.worths, person, worthTold, 99);
                        break;
                    case AT_PAIR:
                        readPair(person);
                        break;
                    case AT_FALLS:
                        readFalls(person);
                        break;
                    case AT_SIGN:
                        more = false;
                        break;
                    default:
                        refuse(1);
                }
            }
        }

        /** Answers which sorts are told then, a bit for each. */
        private int readOfSort(int[] cells, int person, int told, int most) {
            if (!isOneBelow(town.sorts)) {
                return told;
            }
            int sort = value;
            if ((told >> sort & 1) == 1) {
                refuse(5);
            } else if (isNumber(0, most)) {
                cells[person * MOST_SORTS + sort] = value;
            }
            return told | 1 << sort;
        }

        private void readPair(int person) {
            if (town.pairs[person] >= MOST_PAIRS) {
                refuse(2);
                return;
            }
            int pair = person * MOST_PAIRS + town.pairs[person];
            if (!isOneBelow(town.sorts)) {
                return;
            }
            town.pairFirst[pair] = value;
            if (!isOneBelow(town.sorts)) {
                return;
            }
            if (value == town.pairFirst[pair]) {
                refuse(4);
                return;
            }
            town.pairSecond[pair] = value;
            if (isNumber(0, 99)) {
                town.pairWorth[pair] = value;
                town.pairs[person]++;
            }
        }

        private void readFalls(int person) {
            if (fallsTold) {
                refuse(5);
                return;
            }
            fallsTold = true;
            if (isNumber(0, 100)) {
                town.falls[person] = value;
            }
        }

        private void readLaw() {
            if (lawTold) {
                refuse(5);
                return;
            }
            lawTold = true;
            if (!isNumber(1, MOST_GIVEN)) {
                return;
            }
            town.law.gives = value;
            advance();
            if (kind == AT_SPOON) {
                if (!isOneBelow(town.sorts)) {
                    return;
                }
                town.law.spoon = value;
                advance();
            }
            if (kind == AT_BURNS) {
                town.law.burns = true;
                advance();
            }
            if (kind != AT_SIGN) {
                refuse(1);
            }
        }

        private void readTie() {
            int tie = town.ties;
            if (tie >= MOST_TIES) {
                refuse(2);
                return;
            }
            if (!isOneBelow(town.sorts)) {
                return;
            }
            town.tieFirst[tie] = value;
            if (!isOneBelow(town.sorts)) {
                return;
            }
            town.tieSecond[tie] = value;
            if (!isOneBelow(town.sorts)) {
                return;
            }
            if (value == town.tieFirst[tie] || value == town.tieSecond[tie]) {
                refuse(4);
                return;
            }
            town.tieMakes[tie] = value;
            town.ties++;
            isSign();
        }

        private void readMeeting() {
            int meeting = town.meetings;
            if (meeting >= MOST_MEETINGS) {
                refuse(2);
                return;
            }
            if (!isOneBelow(town.people)) {
                return;
            }
            town.meetFirst[meeting] = value;
            if (!isOneBelow(town.people)) {
                return;
            }
            if (value == town.meetFirst[meeting]) {
                refuse(4);
                return;
            }
            town.meetSecond[meeting] = value;
            town.meetings++;
            isSign();
        }

        private boolean refuse(int number) {
            wrong = number;
            return false;
        }

        private boolean isSign() {
            advance();
            return kind == AT_SIGN || refuse(1);
        }

        private boolean isNumber(int least, int most) {
            advance();
            if (kind != AT_NUMBER) {
                return refuse(1);
            }
            return (value >= least && value <= most) || refuse(2);
        }

        /** Whether a number that names one of so many comes next. */
        private boolean isOneBelow(int number) {
            advance();
            if (kind != AT_NUMBER) {
                return refuse(1);
            }
            if (value < 0) {
                return refuse(2);
            }
            return value < number || refuse(3);
        }

        /** The end is told again if one goes on behind it. */
        private void advance() {
            place = tokens.places[behind];
            kind = tokens.kinds[behind];
            value = tokens.values[behind];
            if (kind != AT_END && behind < TAPE) {
                behind++;
            }
        }
    }

    /** Who has what, and all that may be done with it under one law. */
    private static final class Market {
        Town town;
        Law law;
        final int[] row = new int[CELLS];
        private int bestGain;
        private int bestA;
        private int bestB;
        private int bestOffer;
        private int bestZ;

        Market(Town town) {
            this.town = town;
            this.law = town.law;
        }

        void settleIn(Town told) {
            town = told;
            law = told.law;
            System.arraycopy(told.haves, 0, row, 0, CELLS);
        }

        void take(Market other) {
            takeRow(other, other.row);
        }

        void takeRow(Market other, int[] cells) {
            town = other.town;
            law = other.law;
            for (int cell = 0; cell < CELLS && cell < cells.length; cell++) {
                row[cell] = cells[cell];
            }
        }

        /** As the other one, but that one person has only this bag. */
        void takeBag(Market other, int person, int[] bag) {
            takeRow(other, other.row);
            int from = person * MOST_SORTS;
            for (int sort = 0; sort < MOST_SORTS; sort++) {
                row[from + sort] = bag[sort];
            }
        }

        int thingsOf(int sort) {
            int sum = 0;
            for (int person = 0; person < town.people; person++) {
                sum += row[person * MOST_SORTS + sort];
            }
            return sum;
        }

        int things() {
            int sum = 0;
            for (int sort = 0; sort < town.sorts; sort++) {
                sum += thingsOf(sort);
            }
            return sum;
        }

        int bagWorth(int person) {
            int from = person * MOST_SORTS;
            int falls = town.falls[person];
            int full = falls > 0 ? (99 + falls) / falls : NEVER_FULL;
            int sum = 0;
            for (int sort = 0; sort < town.sorts; sort++) {
                int number = row[from + sort];
                if (number > 0) {
                    int counting = number < full ? number : full;
                    int lost = falls * (counting * (counting - 1) / 2);
                    sum += town.worths[from + sort] * (100 * counting - lost);
                }
            }
            int pair = person * MOST_PAIRS;
            for (int k = 0; k < town.pairs[person]; k++) {
                boolean both = row[from + town.pairFirst[pair + k]] > 0
                        && row[from + town.pairSecond[pair + k]] > 0;
                if (both) {
                    sum += 100 * town.pairWorth[pair + k];
                }
            }
            return sum;
        }

        int allWorth() {
            int sum = 0;
            for (int person = 0; person < town.people; person++) {
                sum += bagWorth(person);
            }
            return sum;
        }

        int leastWorth() {
            int least = bagWorth(0);
            for (int person = 1; person < town.people; person++) {
                least = Math.min(least, bagWorth(person));
            }
            return least;
        }

        boolean isLawful(int a, int b, int offer, int z) {
            return canGive(a, offer) && canGet(b, offer, z);
        }

        /** Whether the law takes the offer and a has all of it. */
        boolean canGive(int a, int offer) {
            if (!law.spooned[offer]) {
                return false;
            }
            int thing = offer * MOST_GIVEN;
            int needed = 0;
            for (int j = 0; j < law.gives; j++) {
                int sort = law.things[thing + j];
                needed = j > 0 && law.things[thing + j - 1] == sort ? needed + 1 : 1;
                if (row[a * MOST_SORTS + sort] < needed) {
                    return false;
                }
            }
            return true;
        }

        boolean canGet(int b, int offer, int z) {
            return row[b * MOST_SORTS + z] > 0 && (law.masks[offer] >> z & 1) == 0;
        }

        /** Makes a trade (times 1), or takes one back (times -1). */
        void deal(int a, int b, int offer, int z, int times) {
            int giver = a * MOST_SORTS;
            int getter = b * MOST_SORTS;
            int thing = offer * MOST_GIVEN;
            for (int j = 0; j < law.gives; j++) {
                int sort = law.things[thing + j];
                row[giver + sort] -= times;
                if (!law.burns) {
                    row[getter + sort] += times;
                }
            }
            if (law.burns) {
                row[getter + law.keeps[offer]] += times;
            }
            row[giver + z] += times;
            row[getter + z] -= times;
        }

        boolean canTie(int person, int tie) {
            int from = person * MOST_SORTS;
            int first = town.tieFirst[tie];
            int second = town.tieSecond[tie];
            if (first == second) {
                return row[from + first] > 1;
            }
            return row[from + first] > 0 && row[from + second] > 0;
        }

        /** Ties (times 1), or unties what was tied (times -1). */
        void knot(int person, int tie, int times) {
            int from = person * MOST_SORTS;
            row[from + town.tieFirst[tie]] -= times;
            row[from + town.tieSecond[tie]] -= times;
            row[from + town.tieMakes[tie]] += times;
        }

        /** A meeting of two; answers what both gain together, 0 for no trade. */
        int encounter(int one, int other) {
            bestGain = 0;
            seekBest(Math.min(one, other), Math.max(one, other));
            seekBest(Math.max(one, other), Math.min(one, other));
            if (bestGain > 0) {
                deal(bestA, bestB, bestOffer, bestZ, 1);
            }
            return bestGain;
        }

        private void seekBest(int a, int b) {
            int worthOfA = bagWorth(a);
            int worthOfB = bagWorth(b);
            for (int offer = 0; offer < law.offers; offer++) {
                if (!canGive(a, offer)) {
                    continue;
                }
                for (int z = 0; z < town.sorts; z++) {
                    if (!canGet(b, offer, z)) {
                        continue;
                    }
                    deal(a, b, offer, z, 1);
                    int gainOfA = bagWorth(a) - worthOfA;
                    int gainOfB = gainOfA > 0 ? bagWorth(b) - worthOfB : 0;
                    deal(a, b, offer, z, -1);
                    if (gainOfA > 0 && gainOfB > 0 && gainOfA + gainOfB > bestGain) {
                        bestGain = gainOfA + gainOfB;
                        bestA = a;
                        bestB = b;
                        bestOffer = offer;
                        bestZ = z;
                    }
                }
            }
        }

        /** A day, in which one may sit still; answers how many trades were made. */
        int passDay(int without) {
            int trades = 0;
            for (int meeting = 0; meeting < town.meetings; meeting++) {
                int first = town.meetFirst[meeting];
                int second = town.meetSecond[meeting];
                boolean takesPlace = first != without && second != without;
                if (takesPlace && encounter(first, second) > 0) {
                    trades++;
                }
            }
            return trades;
        }

        void passOrdered(int[] meetings, int number) {
            for (int i = 0; i < number && i < meetings.length; i++) {
                int meeting = meetings[i];
                encounter(town.meetFirst[meeting], town.meetSecond[meeting]);
            }
        }

        /** Goes to the end; answers how many days changed something. */
        int passAllDays() {
            for (int day = 0; day < MOST_DAYS; day++) {
                if (passDay(NONE) == 0) {
                    return day;
                }
            }
            return MOST_DAYS;
        }
    }

    /** Goes through states in the order they are come to, each once. */
    private static final class Search {
        private final Market work;
        private final int[] rows = new int[MOST_STATES * CELLS];
        private final int[] from = new int[MOST_STATES];
        private final int[] by = new int[MOST_STATES];
        private final int[] next = new int[MOST_STATES];
        private final int[] heads = new int[HEADS];
        private int size;
        private int limit;
        private int wisher;
        private int goal;
        private int found;
        private boolean spent;

        Search(Market work) {
            this.work = work;
        }

        /** The first state in which one has what he wishes for, NONE or SPENT. */
        int findWish(Market begin, int person, int sort, int most) {
            wisher = person;
            goal = person * MOST_SORTS + sort;
            goThrough(begin, most);
            return spent ? SPENT : found;
        }

        /** The first state of greatest worth of all, or SPENT. */
        int findMost(Market begin, int most) {
            wisher = NONE;
            goal = NONE;
            goThrough(begin, most);
            if (spent) {
                return SPENT;
            }
            int greatest = NONE;
            int best = 0;
            for (int state = 0; state < size; state++) {
                int worth = worthOf(state);
                if (worth > greatest) {
                    greatest = worth;
                    best = state;
                }
            }
            return best;
        }

        int worthOf(int state) {
            load(state);
            return work.allWorth();
        }

        /** Writes the steps that lead to a state; answers how many they are. */
        int unwind(int state, int[] way) {
            int steps = 0;
            for (int k = state; k > 0 && steps < MOST_STATES; k = from[k]) {
                steps++;
            }
            int k = state;
            for (int i = steps - 1; i >= 0 && i < way.length; i--) {
                way[i] = by[k];
                k = from[k];
            }
            return steps;
        }

        private void goThrough(Market begin, int most) {
            work.take(begin);
            limit = Math.min(most, MOST_STATES);
            size = 0;
            spent = false;
            found = NONE;
            for (int i = 0; i < HEADS; i++) {
                heads[i] = NONE;
            }
            arrive(0, 0);
            for (int state = 0; state < MOST_STATES && state < size && isOpen(); state++) {
                load(state);
                goOnByTrades(state);
                goOnByTies(state);
            }
        }

        private boolean isOpen() {
            return !spent && found == NONE;
        }

        private void load(int state) {
            System.arraycopy(rows, state * CELLS, work.row, 0, CELLS);
        }

        private void goOnByTrades(int state) {
            int people = work.town.people;
            for (int a = 0; a < people; a++) {
                for (int b = 0; b < people; b++) {
                    boolean may = wisher == NONE || a == wisher || b == wisher;
                    if (a != b && may && isOpen()) {
                        tryTrades(state, a, b);
                    }
                }
            }
        }

        private void tryTrades(int state, int a, int b) {
            int other = a == wisher ? b : a;
            int before = work.bagWorth(other);
            for (int offer = 0; offer < work.law.offers; offer++) {
                if (!work.canGive(a, offer)) {
                    continue;
                }
                for (int z = 0; z < work.town.sorts && isOpen(); z++) {
                    if (!work.canGet(b, offer, z)) {
                        continue;
                    }
                    work.deal(a, b, offer, z, 1);
                    if (wisher == NONE || work.bagWorth(other) > before) {
                        arrive(state, ((a * MOST_PEOPLE + b) * MOST_OFFERS + offer) * MOST_SORTS + z);
                    }
                    work.deal(a, b, offer, z, -1);
                }
            }
        }

        private void goOnByTies(int state) {
            for (int person = 0; person < work.town.people; person++) {
                if (wisher != NONE && wisher != person) {
                    continue;
                }
                for (int tie = 0; tie < work.town.ties && isOpen(); tie++) {
                    if (work.canTie(person, tie)) {
                        work.knot(person, tie, 1);
                        arrive(state, FIRST_TIE + person * MOST_TIES + tie);
                        work.knot(person, tie, -1);
                    }
                }
            }
        }

        /** Keeps the state at work, if it is a new one. */
        private void arrive(int state, int step) {
            int head = hash();
            int k = heads[head];
            for (int seen = 0; seen < size && k >= 0 && k < size; seen++) {
                if (isAtWork(k)) {
                    return;
                }
                k = next[k];
            }
            if (size >= limit) {
                spent = true;
                return;
            }
            System.arraycopy(work.row, 0, rows, size * CELLS, CELLS);
            from[size] = state;
            by[size] = step;
            next[size] = heads[head];
            heads[head] = size;
            if (goal >= 0 && work.row[goal] > 0) {
                found = size;
            }
            size++;
        }

        private boolean isAtWork(int state) {
            int cells = work.town.people * MOST_SORTS;
            int at = state * CELLS;
            for (int cell = 0; cell < cells; cell++) {
                if (rows[at + cell] != work.row[cell]) {
                    return false;
                }
            }
            return true;
        }

        private int hash() {
            int cells = work.town.people * MOST_SORTS;
            int sum = 0;
            for (int cell = 0; cell < cells; cell++) {
                sum = sum * 31 + work.row[cell];
            }
            return (sum ^ sum >>> 11 ^ sum >>> 22) & HEADS - 1;
        }
    }

    /** A day seen from its end. */
    private static final class Foresight {
        private final Market work;
        private int thoughts;
        /** Meetings are counted first: too many are told so without looking at any end. */
        private boolean counting;
        /** What each has at the end, as it is seen from each meeting on. */
        final int[][] ends = new int[MOST_MEETINGS + 1][MOST_PEOPLE];

        Foresight(Market work) {
            this.work = work;
        }

        /** False if it is too much to think through. */
        boolean foresee(Market begin) {
            work.take(begin);
            thoughts = 0;
            counting = true;
            boolean enough = think(this, 0);
            thoughts = 0;
            counting = false;
            return enough && think(this, 0);
        }

        private static boolean think(Foresight f, int meeting) {
            Town town = f.work.town;
            if (meeting >= MOST_MEETINGS || meeting >= town.meetings) {
                f.seeEnd(meeting);
                return true;
            }
            f.thoughts++;
            if (f.thoughts > THOUGHTS) {
                return false;
            }
            if (f.counting && meeting + 1 >= town.meetings) {
                return true;
            }
            if (!think(f, meeting + 1)) {
                return false;
            }
            f.takeOver(meeting);
            int first = town.meetFirst[meeting];
            int second = town.meetSecond[meeting];
            int byNone = f.ends[meeting][second];
            int low = Math.min(first, second);
            int high = Math.max(first, second);
            return thinkTrades(f, meeting, low, high, byNone)
                    && thinkTrades(f, meeting, high, low, byNone);
        }

        private static boolean thinkTrades(Foresight f, int meeting, int a, int b, int byNone) {
            Market work = f.work;
            boolean last = meeting + 1 >= work.town.meetings;
            for (int offer = 0; offer < work.law.offers; offer++) {
                if (!work.canGive(a, offer)) {
                    continue;
                }
                for (int z = 0; z < work.town.sorts; z++) {
                    if (!work.canGet(b, offer, z)) {
                        continue;
                    }
                    work.deal(a, b, offer, z, 1);
                    boolean thought = last ? f.seeEndOfTwo(meeting + 1, a, b) : think(f, meeting + 1);
                    work.deal(a, b, offer, z, -1);
                    if (!thought) {
                        return false;
                    }
                    f.weigh(meeting, byNone);
                }
            }
            return true;
        }

        /** What the others have at the end was seen when none traded last. */
        private boolean seeEndOfTwo(int meeting, int a, int b) {
            ends[meeting][a] = work.bagWorth(a);
            ends[meeting][b] = work.bagWorth(b);
            return true;
        }

        private void seeEnd(int meeting) {
            if (meeting < 0 || meeting >= ends.length) {
                return;
            }
            for (int person = 0; person < work.town.people; person++) {
                ends[meeting][person] = work.bagWorth(person);
            }
        }

        private void takeOver(int meeting) {
            System.arraycopy(ends[meeting + 1], 0, ends[meeting], 0, MOST_PEOPLE);
        }

        /** The first one's best so far begins with what he has by no trade. */
        private void weigh(int meeting, int byNone) {
            int first = work.town.meetFirst[meeting];
            int second = work.town.meetSecond[meeting];
            boolean better = ends[meeting + 1][first] > ends[meeting][first];
            if (better && ends[meeting + 1][second] > byNone) {
                takeOver(meeting);
            }
        }
    }

    /** All parts of a bag, those of one number of things in the order of their rows. */
    private static final class Purse {
        private final int[] full = new int[MOST_SORTS];
        final int[] part = new int[MOST_SORTS];
        private int sorts;
        int things;

        void open(Market market, int person) {
            sorts = market.town.sorts;
            things = 0;
            for (int sort = 0; sort < MOST_SORTS; sort++) {
                full[sort] = market.row[person * MOST_SORTS + sort];
                part[sort] = 0;
                things += full[sort];
            }
        }

        /** The least row of so many things, from one sort on. */
        void fill(int from, int number) {
            int missing = number;
            for (int sort = sorts - 1; sort >= from; sort--) {
                part[sort] = Math.min(full[sort], missing);
                missing -= part[sort];
            }
        }

        boolean goOn() {
            int behind = 0;
            for (int sort = sorts - 1; sort >= 0; sort--) {
                if (behind > 0 && part[sort] < full[sort]) {
                    part[sort]++;
                    fill(sort + 1, behind - 1);
                    return true;
                }
                behind += part[sort];
            }
            return false;
        }
    }

    /** All ways to share out the things, the row with more of it ahead. */
    private static final class Sharing {
        final int[] row = new int[CELLS];
        private final int[] all = new int[MOST_SORTS];
        private int people;
        private int sorts;

        void begin(Market market) {
            people = market.town.people;
            sorts = market.town.sorts;
            for (int cell = 0; cell < CELLS; cell++) {
                row[cell] = 0;
            }
            for (int sort = 0; sort < sorts; sort++) {
                all[sort] = market.thingsOf(sort);
                row[sort] = all[sort];
            }
        }

        /** How many ways there are; too many are told as one too many. */
        int ways() {
            int product = 1;
            for (int sort = 0; sort < sorts; sort++) {
                product *= waysOf(all[sort]);
                if (product > SHARINGS) {
                    return SHARINGS + 1;
                }
            }
            return product;
        }

        private int waysOf(int number) {
            int sum = 1;
            for (int k = 1; k < people; k++) {
                sum = sum * (number + k) / k;
                if (sum > SHARINGS) {
                    return SHARINGS + 1;
                }
            }
            return sum;
        }

        void goOn() {
            for (int person = people - 2; person >= 0; person--) {
                for (int sort = sorts - 1; sort >= 0; sort--) {
                    if (row[person * MOST_SORTS + sort] > 0) {
                        row[person * MOST_SORTS + sort]--;
                        handOn(person, sort);
                        return;
                    }
                }
            }
        }

        /** Behind a cell that became less, the next one gets all that can be. */
        private void handOn(int person, int upTo) {
            for (int sort = 0; sort < sorts; sort++) {
                int owner = sort <= upTo ? person + 1 : person;
                int rest = all[sort];
                for (int one = 0; one < people; one++) {
                    int cell = one * MOST_SORTS + sort;
                    if (one == owner) {
                        row[cell] = rest;
                    } else if (one > owner) {
                        row[cell] = 0;
                    }
                    rest -= row[cell];
                }
            }
        }
    }

    /** All orders of a few meetings, as rows. */
    private static final class Orders {
        final int[] row = new int[ORDERED_MEETINGS];
        private int length;

        void begin(int number) {
            length = Math.min(number, ORDERED_MEETINGS);
            for (int i = 0; i < length; i++) {
                row[i] = i;
            }
        }

        boolean goOn() {
            int turn = length - 2;
            while (turn >= 0 && row[turn] > row[turn + 1]) {
                turn--;
            }
            if (turn < 0) {
                return false;
            }
            int other = length - 1;
            while (other > turn + 1 && row[other] < row[turn]) {
                other--;
            }
            swap(turn, other);
            int high = length - 1;
            for (int low = turn + 1; low < high; low++) {
                swap(low, high);
                high--;
            }
            return true;
        }

        private void swap(int i, int j) {
            int held = row[i];
            row[i] = row[j];
            row[j] = held;
        }
    }

    /** What is kept from call to call, till another town comes. */
    private static final class Kept {
        final int[] way = new int[MOST_STATES];
        int wayLength;
        final int[] bag = new int[MOST_SORTS];
        boolean hasBag;
        final int[] order = new int[ORDERED_MEETINGS];
        int orderLength;
        final int[] share = new int[CELLS];
        boolean hasShare;
        final int[] image = new int[CELLS];
        boolean hasImage;

        void forget() {
            wayLength = 0;
            hasBag = false;
            orderLength = 0;
            hasShare = false;
            hasImage = false;
        }

        void keepBag(int[] part) {
            System.arraycopy(part, 0, bag, 0, MOST_SORTS);
            hasBag = true;
        }

        void keepOrder(int[] meetings, int number) {
            orderLength = Math.min(number, ORDERED_MEETINGS);
            System.arraycopy(meetings, 0, order, 0, orderLength);
        }

        void keepShare(int[] row) {
            System.arraycopy(row, 0, share, 0, CELLS);
            hasShare = true;
        }
    }
}
