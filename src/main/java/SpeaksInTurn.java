import java.util.Arrays;

/** A table of people, an agenda of things, and the rules by which each speaks in turn. */
public final class SpeaksInTurn {
    public static final int BAD = -1, NOT = -2, FULL = -3, STATE = -5, VOID = -2000000000;

    private static final int NOTHING_THERE = -11, OTHER_KIND = -12, NO_PLACE = -13, BELOW_ZERO = -14;

    private static final int PEOPLE = 10, THINGS = 6, CARDS = 20, ALL_PEOPLE = 1023;
    private static final int BY_TURNS = 1, NOT_YET = 2, STICK = 3, CHIEF_LAST = 4, PAPER = 5, RULES = 6;
    private static final int SAYINGS = 200, MINUTES_A_THING = 60, TIMERS = 9;
    private static final int LOUDER = 3, ANY_RANK = 10, ON_PAPER = -1, NOBODY = -1;
    private static final int WHO = 0, ABOUT = 1, BEGINS = 2, LONG = 3, NEW = 4, AGAIN = 5, STOPPED = 6, PARTS = 7;

    private static final int RULE_IN_FORCE = 0, STANDING = 1, TIMER = 2;
    private static final int[] LEAST_SET = {0, 0, 1};
    private static final int[] MOST_SET = {5, 1, 9};

    private static final int FIRST_OF_THINGS = 3, MENDABLE = 5;
    private static final int[] LEAST_MENDED = {0, 0, 0, -99, 0};
    private static final int[] MOST_MENDED = {9, 9, 99, 99, 9};

    private static final int ASK_RULE = 0, ASK_ORDER = 1, ASK_TIMER = 2, ANSWERS = 3;
    private static final int ORDERED_THINGS = 5, ORDERS = 120;

    private static final int SHELVES = 6, ELEMENTS = 60;
    private static final int EMPTY_SHELF = -2, SAYING_SHELF = -1;
    private static final int BYTES = 0, SHORTS = 1, INTS = 2, LONGS = 3, BOOLEANS = 4;

    private final Table table;
    private final Changes changes;
    private final Minutes minutes;
    private final Thought thought;
    private final Acts acts;
    private final Shelf[] shelves;

    public SpeaksInTurn() {
        table = new Table();
        changes = new Changes();
        minutes = new Minutes(table);
        thought = new Thought(table);
        acts = new Acts();
        shelves = new Shelf[SHELVES];
        for (int i = 0; i < SHELVES; i++) {
            shelves[i] = new Shelf();
        }
    }

    // ---- the table

    public int person(int rv, int wl) {
        if (rv < 0 || rv > 99 || wl < 0 || wl > 9999) {
            return BAD;
        }
        return table.people >= PEOPLE ? FULL : table.addPerson(rv, wl);
    }

    public int thing(int worth, int easy) {
        if (worth < -99 || worth > 99 || easy < 0 || easy > 9) {
            return BAD;
        }
        return table.things >= THINGS ? FULL : table.addThing(worth, easy);
    }

    public int card(int thing, int counts, int people) {
        if (!table.isCard(thing, counts, people)) {
            return BAD;
        }
        return table.cards >= CARDS ? FULL : table.addCard(thing, counts, people);
    }

    public int cards(int shelf, int i, int n) {
        if (isNoShelf(shelf) || n < 1 || n > CARDS) {
            return BAD;
        }
        Shelf from = shelves[shelf];
        if (from.sort == EMPTY_SHELF) {
            return 0;
        }
        return from.sort == SHORTS ? table.addCards(from, i, n) : OTHER_KIND;
    }

    public int feed(int letter) {
        if (letter < 0 || letter > 255) {
            return BAD;
        }
        return table.text.isFull() ? FULL : table.text.write(letter);
    }

    public int law() {
        int fault = table.text.enact();
        if (fault >= 0) {
            return -100 - fault;
        }
        table.version++;
        return 1;
    }

    public int set(int what, int v) {
        if (what < 0 || what > TIMER || v < LEAST_SET[what] || v > MOST_SET[what]) {
            return BAD;
        }
        int before = table.settings[what];
        table.settings[what] = v;
        table.version++;
        return before;
    }

    public int mend(int number, int what, int v) {
        if (what < 0 || what >= MENDABLE || v < LEAST_MENDED[what] || v > MOST_MENDED[what]) {
            return VOID;
        }
        if (number < 0 || number >= (what < FIRST_OF_THINGS ? table.people : table.things)) {
            return VOID;
        }
        int before = table.mendable(what)[number];
        if (before != v) {
            changes.note(number, what, before, v);
            table.change(number, what, v);
        }
        return before;
    }

    public int of(int number, int what) {
        if (number < 0) {
            return VOID;
        }
        if (what >= 0 && what <= 3) {
            return number < table.people ? table.ofPerson(number, what) : VOID;
        }
        if (what == 10 || what == 11) {
            return number < table.things ? (what == 10 ? table.worth : table.easy)[number] : VOID;
        }
        if (what >= 20 && what <= 22) {
            return number < table.cards ? table.ofCard(number, what) : VOID;
        }
        return VOID;
    }

    // ---- the meeting

    public int meet(int order) {
        if (!minutes.takesOrder(order)) {
            return BAD;
        }
        return table.isBare() ? STATE : minutes.hold();
    }

    public int told(int what) {
        if (what < 0 || what > 9) {
            return BAD;
        }
        return minutes.held ? minutes.summary[what] : STATE;
    }

    public int saying(int i, int what) {
        if (what < 0 || what >= PARTS) {
            return BAD;
        }
        if (!minutes.held) {
            return STATE;
        }
        return i < 0 || i >= minutes.meeting.sayings ? BAD : minutes.meeting.log[i * PARTS + what];
    }

    public int took(int thing, int what) {
        if (!minutes.hadThing(thing) || what < 0 || what > 1) {
            return VOID;
        }
        return (what == 0 ? minutes.meeting.taken : minutes.comes)[thing];
    }

    public int did(int person, int what) {
        if (what < 0 || what > 3) {
            return BAD;
        }
        if (!minutes.held) {
            return STATE;
        }
        return minutes.hadPerson(person) ? minutes.ofPerson(person, what) : BAD;
    }

    public int first(int card, int what) {
        if (!minutes.hadCard(card) || what < 0 || what > 1) {
            return VOID;
        }
        return (what == 0 ? minutes.meeting.firstWho : minutes.meeting.firstIn)[card];
    }

    // ---- in thought

    public int rule(int what) {
        return thought.answer(ASK_RULE, what);
    }

    public int order(int what) {
        return thought.answer(ASK_ORDER, what);
    }

    public int times(int what) {
        return thought.answer(ASK_TIMER, what);
    }

    public int film(int shelf) {
        if (isNoShelf(shelf)) {
            return BAD;
        }
        Shelf shown = shelves[shelf];
        if (shown.sort == EMPTY_SHELF) {
            return NOTHING_THERE;
        }
        if (shown.sort != BYTES) {
            return OTHER_KIND;
        }
        return table.isBare() ? STATE : thought.rulesOf(shown);
    }

    public int wish(int person, int thing) {
        if (person < 0 || person >= table.people || thing < 0 || thing >= table.things) {
            return VOID;
        }
        return thought.wishNow(person, thing);
    }

    public int undo() {
        if (!changes.goBack()) {
            return STATE;
        }
        int at = changes.done;
        table.change(changes.number[at], changes.what[at], changes.before[at]);
        return changes.done;
    }

    public int redo() {
        if (!changes.goOn()) {
            return STATE;
        }
        int at = changes.done - 1;
        table.change(changes.number[at], changes.what[at], changes.after[at]);
        return changes.size - changes.done;
    }

    // ---- acts, shelves

    public int body(int kind) {
        if (kind < 0 || kind >= Acts.KINDS) {
            return BAD;
        }
        return acts.bodies >= Acts.BODIES ? FULL : acts.addBody(kind);
    }

    public int act(int body, int act, int x) {
        acts.ran = 0;
        if (body < 0 || body >= acts.bodies || act < 0 || act >= Acts.ACTS) {
            return 0;
        }
        return acts.begin(body, act, x);
    }

    public int trace(int i) {
        return i < 0 || i >= acts.ran || i >= Acts.KEPT ? BAD : acts.traced[i];
    }

    public int keep(int shelf, int body) {
        if (isNoShelf(shelf) || body < -1 || body >= acts.bodies) {
            return BAD;
        }
        shelves[shelf].holdBody(body);
        return 1;
    }

    public int row(int shelf, int sort, int n) {
        if (isNoShelf(shelf) || sort < BYTES || sort > BOOLEANS || n > ELEMENTS) {
            return BAD;
        }
        if (n < 0) {
            return BELOW_ZERO;
        }
        shelves[shelf].holdRow(sort, n);
        return 1;
    }

    public int put(int shelf, int i, long v) {
        if (isNoShelf(shelf)) {
            return BAD;
        }
        int refusal = shelves[shelf].refusalAt(i);
        if (refusal != 0) {
            return refusal;
        }
        shelves[shelf].store(i, v);
        return 1;
    }

    public long element(int shelf, int i) {
        if (isNoShelf(shelf) || shelves[shelf].refusalAt(i) != 0) {
            return Long.MIN_VALUE;
        }
        return shelves[shelf].elements[i];
    }

    public int shift(int shelf, int i, int other, int j, int n) {
        if (isNoShelf(shelf) || isNoShelf(other)) {
            return BAD;
        }
        Shelf from = shelves[shelf];
        Shelf to = shelves[other];
        if (from.sort == EMPTY_SHELF || to.sort == EMPTY_SHELF) {
            return NOTHING_THERE;
        }
        if (from.sort == SAYING_SHELF || from.sort != to.sort) {
            return OTHER_KIND;
        }
        if (!from.hasRun(i, n) || !to.hasRun(j, n)) {
            return NO_PLACE;
        }
        System.arraycopy(from.elements, i, to.elements, j, n);
        return n;
    }

    public int taken(int shelf, int k) {
        if (isNoShelf(shelf) || k < 0 || k >= Acts.KINDS) {
            return BAD;
        }
        Shelf held = shelves[shelf];
        if (held.sort == EMPTY_SHELF) {
            return NOTHING_THERE;
        }
        if (held.sort != SAYING_SHELF) {
            return OTHER_KIND;
        }
        int kind = acts.kindOf(held.body);
        return Acts.isUnder(kind, k) ? kind : OTHER_KIND;
    }

    public int count(int what) {
        switch (what) {
            case 0: return table.people;
            case 1: return table.things;
            case 2: return table.cards;
            case 3: return table.text.tapeLength;
            case 4: return changes.done;
            case 5: return acts.bodies;
            case 6: return acts.ran;
            default: return BAD;
        }
    }

    private static boolean isNoShelf(int shelf) {
        return shelf < 0 || shelf >= SHELVES;
    }

    /** The people, things and cards, with what is set and the law. */
    private static final class Table {
        final int[] rank = new int[PEOPLE];
        final int[] voice = new int[PEOPLE];
        final int[] wage = new int[PEOPLE];
        final int[] late = new int[PEOPLE];
        final int[] worth = new int[THINGS];
        final int[] easy = new int[THINGS];
        final int[] cardThing = new int[CARDS];
        final int[] cardCounts = new int[CARDS];
        final int[] cardPeople = new int[CARDS];
        final int[] settings = {0, 0, 3};
        // The cards as bits, by person and by thing: a meeting asks for them at every saying.
        final int[] knows = new int[PEOPLE];
        final int[] cardsOn = new int[THINGS];
        final Law text = new Law();
        int people;
        int things;
        int cards;
        // Goes up with every change, so that what was thought out before is known to be old.
        int version;

        boolean isBare() {
            return people == 0 || things == 0;
        }

        int addPerson(int rv, int wl) {
            rank[people] = rv / 10;
            voice[people] = rv % 10;
            wage[people] = wl / 100;
            late[people] = wl % 100;
            version++;
            return people++;
        }

        int addThing(int worthOf, int easyOf) {
            worth[things] = worthOf;
            easy[things] = easyOf;
            version++;
            return things++;
        }

        boolean isCard(int thing, int counts, int known) {
            return thing >= 0 && thing < things && counts >= -9 && counts <= 9 && known >= 0 && known <= ALL_PEOPLE;
        }

        int addCard(int thing, int counts, int known) {
            cardThing[cards] = thing;
            cardCounts[cards] = counts;
            cardPeople[cards] = known;
            cardsOn[thing] |= 1 << cards;
            for (int p = 0; p < PEOPLE; p++) {
                knows[p] |= (known >> p & 1) << cards;
            }
            version++;
            return cards++;
        }

        int addCards(Shelf from, int place, int wanted) {
            int came = 0;
            while (came < wanted && cards < CARDS && from.hasRun(place, 3 * came + 3)) {
                int at = place + 3 * came;
                int thing = (int) from.elements[at];
                int counts = (int) from.elements[at + 1];
                int known = (int) from.elements[at + 2];
                if (!isCard(thing, counts, known)) {
                    break;
                }
                addCard(thing, counts, known);
                came++;
            }
            return came;
        }

        int[] mendable(int what) {
            switch (what) {
                case 0: return rank;
                case 1: return voice;
                case 2: return late;
                case 3: return worth;
                default: return easy;
            }
        }

        void change(int number, int what, int v) {
            mendable(what)[number] = v;
            version++;
        }

        int ofPerson(int person, int what) {
            switch (what) {
                case 0: return rank[person];
                case 1: return voice[person];
                case 2: return wage[person];
                default: return late[person];
            }
        }

        int ofCard(int card, int what) {
            switch (what) {
                case 20: return cardThing[card];
                case 21: return cardCounts[card];
                default: return cardPeople[card];
            }
        }

        /** What a thing comes to by these cards. */
        int sum(int thing, int known) {
            int sum = worth[thing];
            for (int c = 0; c < cards; c++) {
                if ((known & cardsOn[thing] & 1 << c) != 0) {
                    sum += cardCounts[c];
                }
            }
            return sum;
        }

        /** The things that are decided with yes by these cards, as bits. */
        int decided(int known) {
            int bits = 0;
            for (int t = 0; t < things; t++) {
                bits |= sum(t, known) > 0 ? 1 << t : 0;
            }
            return bits;
        }

        /** The cards known to anybody at all: a card may name people who never came to the table. */
        int knownCards() {
            int bits = 0;
            for (int p = 0; p < people; p++) {
                bits |= knows[p];
            }
            return bits;
        }

        /** The cards that just one of the people knows. */
        int aloneCards() {
            int bits = 0;
            for (int c = 0; c < cards; c++) {
                if (Integer.bitCount(cardPeople[c] & (1 << people) - 1) == 1) {
                    bits |= 1 << c;
                }
            }
            return bits;
        }
    }

    /** The tape, and the law that was read from it, worked out as signs behind their operands. */
    private static final class Law {
        static final int TAPE = 120, OPEN = 6, DIGITS = 4, ROOM = 128;
        static final int FIRST_NAME = 10000, FIRST_SIGN = 20000;
        static final int NEGATE = FIRST_SIGN + '~', NEGATION = FIRST_SIGN + '!';
        static final int IF = FIRST_SIGN + '?', LINE_END = FIRST_SIGN + ';';
        static final int NAMES = 8;
        static final int RANK = 0, VOICE = 1, EASY = 2, UNSAID = 3, SPOKEN = 4, TAKEN = 5, PERSON = 6, LAST = 7;
        static final String NAME_LETTERS = "rvenstpl";

        final int[] tape = new int[TAPE];
        final int[] stack = new int[ROOM];
        int tapeLength;
        private int[] code = new int[ROOM];
        private int[] draft = new int[ROOM];
        private int codeLength;
        private int draftLength;
        private int place;
        private int fault;

        boolean isFull() {
            return tapeLength >= TAPE;
        }

        int write(int letter) {
            tape[tapeLength] = letter;
            tapeLength++;
            return tapeLength;
        }

        /** Reads the tape and empties it: the fault's place, or -1 if it has become the law. */
        int enact() {
            place = 0;
            fault = -1;
            draftLength = 0;
            readLine();
            for (int i = 0; i < TAPE && fault < 0 && next() == ';'; i++) {
                place++;
                readLine();
            }
            if (place < tapeLength) {
                refuse();
            }
            tapeLength = 0;
            if (fault < 0) {
                int[] former = code;
                code = draft;
                draft = former;
                codeLength = draftLength;
            }
            return fault;
        }

        private int next() {
            return place < tapeLength && place < TAPE ? tape[place] : -1;
        }

        /** The first fault counts: what is found behind it only follows from it. */
        private void refuse() {
            if (fault < 0) {
                fault = place;
            }
        }

        private void emit(int sign) {
            if (draftLength < ROOM) {
                draft[draftLength] = sign;
                draftLength++;
            }
        }

        private void readLine() {
            readEither(0);
            if (fault < 0 && next() == '?') {
                place++;
                emit(IF);
                readEither(0);
            }
            emit(LINE_END);
        }

        private void readEither(int open) {
            readBoth(open);
            for (int i = 0; i < TAPE && fault < 0 && next() == '|'; i++) {
                place++;
                readBoth(open);
                emit(FIRST_SIGN + '|');
            }
        }

        private void readBoth(int open) {
            readCompared(open);
            for (int i = 0; i < TAPE && fault < 0 && next() == '&'; i++) {
                place++;
                readCompared(open);
                emit(FIRST_SIGN + '&');
            }
        }

        private void readCompared(int open) {
            readSum(open);
            int sign = next();
            if (fault < 0 && (sign == '<' || sign == '=' || sign == '>')) {
                place++;
                readSum(open);
                emit(FIRST_SIGN + sign);
            }
        }

        private void readSum(int open) {
            readProduct(open);
            for (int i = 0; i < TAPE && fault < 0 && (next() == '+' || next() == '-'); i++) {
                int sign = next();
                place++;
                readProduct(open);
                emit(FIRST_SIGN + sign);
            }
        }

        private void readProduct(int open) {
            readOperand(open);
            for (int i = 0; i < TAPE && fault < 0 && (next() == '*' || next() == '/' || next() == '%'); i++) {
                int sign = next();
                place++;
                readOperand(open);
                emit(FIRST_SIGN + sign);
            }
        }

        private void readOperand(int open) {
            int sign = next();
            int name = sign < 0 ? -1 : NAME_LETTERS.indexOf((char) sign);
            if (isDigit(sign)) {
                readNumber();
            } else if (name >= 0) {
                place++;
                emit(FIRST_NAME + name);
            } else if (open < OPEN && (sign == '(' || sign == '!' || sign == '-')) {
                place++;
                readOpened(sign, open + 1);
            } else {
                refuse();
            }
        }

        private void readOpened(int sign, int open) {
            if (sign != '(') {
                readOperand(open);
                emit(sign == '!' ? NEGATION : NEGATE);
                return;
            }
            readEither(open);
            if (next() != ')') {
                refuse();
            }
            place++;
        }

        private void readNumber() {
            int number = 0;
            for (int i = 0; i < DIGITS && isDigit(next()); i++) {
                number = number * 10 + next() - '0';
                place++;
            }
            emit(number);
        }

        private static boolean isDigit(int sign) {
            return sign >= '0' && sign <= '9';
        }

        /** The wish of one of whom the names tell. */
        int value(int[] names) {
            if (codeLength == 0) {
                return 10 * names[UNSAID] + names[EASY] + names[VOICE] - 5 * names[SPOKEN];
            }
            int top = 0;
            boolean passedOver = false;
            for (int k = 0; k < codeLength; k++) {
                int sign = code[k];
                if (passedOver) {
                    passedOver = sign != LINE_END;
                } else if (sign < FIRST_SIGN && top < ROOM) {
                    stack[top] = sign < FIRST_NAME ? sign : names[sign - FIRST_NAME];
                    top++;
                } else if (top < 1) {
                    return 0;
                } else if (sign == LINE_END) {
                    return stack[top - 1];
                } else if (sign == IF) {
                    top--;
                    passedOver = stack[top] == 0;
                } else if (sign == NEGATE || sign == NEGATION) {
                    stack[top - 1] = sign == NEGATE ? -stack[top - 1] : bit(stack[top - 1] == 0);
                } else if (top > 1) {
                    top--;
                    stack[top - 1] = joined(sign - FIRST_SIGN, stack[top - 1], stack[top]);
                }
            }
            return 0;
        }

        private static int joined(int sign, int a, int b) {
            switch (sign) {
                case '|': return a != 0 || b != 0 ? 1 : 0;
                case '&': return a != 0 && b != 0 ? 1 : 0;
                case '<': return a < b ? 1 : 0;
                case '=': return a == b ? 1 : 0;
                case '>': return a > b ? 1 : 0;
                case '+': return a + b;
                case '-': return a - b;
                case '*': return a * b;
                case '/': return b == 0 ? 0 : a / b;
                default: return b == 0 ? 0 : a % b;
            }
        }

        private static int bit(boolean holds) {
            return holds ? 1 : 0;
        }
    }

    /** One meeting, held or in thought: its sayings and what came of them. */
    private static final class Meeting {
        final int[] log = new int[SAYINGS * PARTS];
        final int[] taken = new int[THINGS];
        final int[] firstWho = new int[CARDS];
        final int[] firstIn = new int[CARDS];
        final int[] stops = new int[PEOPLE];
        final int[] takenOver = new int[PEOPLE];
        final int[] spoke = new int[PEOPLE];
        int sayings;
        int minute;
        int said;
        private final Table table;
        private final int[] names = new int[Law.NAMES];
        private final int[] wishes = new int[PEOPLE];
        private final int[] turns = new int[PEOPLE];
        // Who stopped one as one spoke last, since the same one may not do it again at once.
        private final int[] stopper = new int[PEOPLE];
        private int rule;
        private int timer;
        private int absent;
        private int last;

        Meeting(Table table) {
            this.table = table;
        }

        void clear() {
            Arrays.fill(taken, 0);
            Arrays.fill(firstWho, NOT);
            Arrays.fill(firstIn, NOT);
            Arrays.fill(stops, 0);
            Arrays.fill(takenOver, 0);
            Arrays.fill(spoke, 0);
            Arrays.fill(turns, 0);
            Arrays.fill(stopper, NOT);
            sayings = 0;
            minute = 0;
            said = 0;
            last = NOBODY;
        }

        void hold(int[] agenda, int ruleHeld, int timerHeld, int absentOne) {
            clear();
            rule = ruleHeld;
            timer = timerHeld;
            absent = absentOne;
            for (int i = 0; i < table.things && i < agenda.length; i++) {
                discuss(agenda[i]);
            }
        }

        private void discuss(int thing) {
            if (thing < 0 || thing >= table.things) {
                return;
            }
            Arrays.fill(turns, 0);
            if (rule == PAPER) {
                writeDown(thing);
            }
            int speaker = 0;
            for (int i = sayings; i < SAYINGS && speaker >= 0 && taken[thing] < MINUTES_A_THING; i++) {
                weigh(thing);
                speaker = nextSpeaker();
                if (speaker >= 0) {
                    speak(speaker, thing);
                }
            }
        }

        boolean isThere(int person) {
            return person != absent && table.late[person] <= minute;
        }

        /** The cards known to anybody who is there. */
        int cardsThere() {
            int bits = 0;
            for (int p = 0; p < table.people; p++) {
                bits |= isThere(p) ? table.knows[p] : 0;
            }
            return bits;
        }

        private void writeDown(int thing) {
            int written = cardsThere() & table.cardsOn[thing];
            sayFirst(written, ON_PAPER, ON_PAPER);
        }

        private void sayFirst(int bits, int who, int saying) {
            for (int c = 0; c < table.cards; c++) {
                if ((bits & 1 << c) != 0) {
                    firstWho[c] = who;
                    firstIn[c] = saying;
                }
            }
            said |= bits;
        }

        /** Who is not there wishes nothing. */
        private void weigh(int thing) {
            for (int p = 0; p < table.people; p++) {
                wishes[p] = isThere(p) ? table.text.value(namesOf(p, thing)) : 0;
            }
        }

        int[] namesOf(int person, int thing) {
            names[Law.RANK] = table.rank[person];
            names[Law.VOICE] = table.voice[person];
            names[Law.EASY] = table.easy[thing];
            names[Law.UNSAID] = Integer.bitCount(table.knows[person] & table.cardsOn[thing] & ~said);
            names[Law.SPOKEN] = turns[person];
            names[Law.TAKEN] = taken[thing];
            names[Law.PERSON] = person;
            names[Law.LAST] = person == last ? 1 : 0;
            return names;
        }

        private int nextSpeaker() {
            switch (rule) {
                case BY_TURNS: return byTurns();
                case NOT_YET: return whoSpokeLeast();
                case STICK: return last >= 0 && wishes[last] > 0 ? last : byTurns();
                case CHIEF_LAST: return chiefLast();
                default: return whoWishesMost(ANY_RANK);
            }
        }

        private int byTurns() {
            for (int i = 0; i < table.people; i++) {
                int p = (last + 1 + i) % table.people;
                if (wishes[p] > 0) {
                    return p;
                }
            }
            return NOBODY;
        }

        private int whoSpokeLeast() {
            int best = NOBODY;
            for (int p = 0; p < table.people; p++) {
                if (wishes[p] > 0 && (best < 0 || turns[p] < turns[best]
                        || turns[p] == turns[best] && wishes[p] > wishes[best])) {
                    best = p;
                }
            }
            return best;
        }

        private int chiefLast() {
            int greatest = 0;
            for (int p = 0; p < table.people; p++) {
                greatest = isThere(p) ? Math.max(greatest, table.rank[p]) : greatest;
            }
            int other = whoWishesMost(greatest);
            return other >= 0 ? other : whoWishesMost(ANY_RANK);
        }

        private int whoWishesMost(int below) {
            int best = NOBODY;
            for (int p = 0; p < table.people; p++) {
                if (wishes[p] > 0 && table.rank[p] < below && (best < 0 || wishes[p] > wishes[best])) {
                    best = p;
                }
            }
            return best;
        }

        private void speak(int person, int thing) {
            int known = table.knows[person] & table.cardsOn[thing];
            int unsaid = known & ~said;
            int by = whoStops(person);
            boolean stopped = by != NOT;
            int most = stopped ? Math.min(1, timer - 1) : timer - 1;
            int fresh = lowestBits(unsaid, most);
            int again = fresh == 0 ? lowestPlace(known & said) : NOT;
            int minutes = stopped ? 1 : lengthOf(Integer.bitCount(unsaid));
            if (stopped) {
                stops[by]++;
            }
            if (again >= 0 && firstWho[again] >= 0 && firstWho[again] != person) {
                takenOver[person]++;
            }
            sayFirst(fresh, person, sayings);
            writeLog(person, thing, minutes, fresh, again, by);
            stopper[person] = by;
            turns[person]++;
            spoke[person] += minutes;
            taken[thing] += minutes;
            minute += minutes;
            last = person;
        }

        private int whoStops(int person) {
            for (int p = 0; p < table.people; p++) {
                if (p != person && p != stopper[person] && table.voice[p] >= table.voice[person] + LOUDER
                        && wishes[p] > wishes[person]) {
                    return p;
                }
            }
            return NOT;
        }

        private int lengthOf(int unsaid) {
            int whole = Math.min(timer, 1 + unsaid);
            return table.settings[STANDING] == 1 ? (2 * whole + 2) / 3 : whole;
        }

        private void writeLog(int person, int thing, int minutes, int fresh, int again, int by) {
            if (sayings >= SAYINGS) {
                return;
            }
            int at = sayings * PARTS;
            log[at + WHO] = person;
            log[at + ABOUT] = thing;
            log[at + BEGINS] = minute;
            log[at + LONG] = minutes;
            log[at + NEW] = fresh;
            log[at + AGAIN] = again;
            log[at + STOPPED] = by;
            sayings++;
        }

        private static int lowestBits(int bits, int most) {
            int rest = bits;
            for (int i = 0; i < most; i++) {
                rest &= rest - 1;
            }
            return bits & ~rest;
        }

        private static int lowestPlace(int bits) {
            return bits == 0 ? NOT : Integer.bitCount((bits & -bits) - 1);
        }

        int decided() {
            return table.decided(said);
        }

        int wrong() {
            return decided() ^ table.decided(table.knownCards());
        }

        int minutesThere(int person) {
            return person == absent ? 0 : Math.max(0, minute - table.late[person]);
        }

        int cost() {
            int sum = 0;
            for (int p = 0; p < table.people; p++) {
                sum += table.wage[p] * minutesThere(p);
            }
            return sum;
        }
    }

    /** The meeting kept, told as it was when it was held: later changes at the table leave it alone. */
    private static final class Minutes {
        final Meeting meeting;
        final int[] summary = new int[10];
        final int[] comes = new int[THINGS];
        boolean held;
        private final Table table;
        private final Meeting without;
        private final int[] agenda = new int[THINGS];
        private final int[] there = new int[PEOPLE];
        // With how many it was held: who and what came to the table behind it is not of this meeting.
        private int people;
        private int things;
        private int cards;

        Minutes(Table table) {
            this.table = table;
            meeting = new Meeting(table);
            without = new Meeting(table);
        }

        /** Lays out the agenda by the order's digits; whether each thing stands there just once. */
        boolean takesOrder(int order) {
            if (order == 0) {
                asTheyCame(agenda);
                return true;
            }
            int rest = order;
            int seen = 0;
            for (int i = table.things - 1; i >= 0; i--) {
                int thing = rest % 10 - 1;
                if (thing < 0 || thing >= table.things || (seen & 1 << thing) != 0) {
                    return false;
                }
                seen |= 1 << thing;
                agenda[i] = thing;
                rest /= 10;
            }
            return rest == 0;
        }

        int hold() {
            meeting.hold(agenda, table.settings[RULE_IN_FORCE], table.settings[TIMER], NOBODY);
            held = true;
            people = table.people;
            things = table.things;
            cards = table.cards;
            for (int t = 0; t < things; t++) {
                comes[t] = table.sum(t, meeting.said);
            }
            for (int p = 0; p < people; p++) {
                there[p] = meeting.minutesThere(p);
            }
            summarize();
            summary[9] = needed();
            return meeting.minute;
        }

        private void summarize() {
            int alone = table.aloneCards();
            summary[0] = meeting.minute;
            summary[1] = meeting.sayings;
            summary[2] = meeting.decided();
            summary[3] = meeting.cardsThere() & ~meeting.said;
            summary[4] = meeting.wrong();
            summary[5] = Integer.bitCount(alone & meeting.said);
            summary[6] = Integer.bitCount(alone);
            summary[7] = meeting.cost();
            summary[8] = shed();
        }

        private int shed() {
            int most = 0;
            for (int t = 1; t < things; t++) {
                if (minutesByWorth(t) > minutesByWorth(most)) {
                    most = t;
                }
            }
            return most;
        }

        private int minutesByWorth(int thing) {
            return 1000 * meeting.taken[thing] / (Math.abs(table.worth[thing]) + 1);
        }

        private int needed() {
            int bits = 0;
            for (int p = 0; p < people; p++) {
                without.hold(agenda, table.settings[RULE_IN_FORCE], table.settings[TIMER], p);
                bits |= without.decided() != meeting.decided() ? 1 << p : 0;
            }
            return bits;
        }

        boolean hadPerson(int person) {
            return held && person >= 0 && person < people;
        }

        boolean hadThing(int thing) {
            return held && thing >= 0 && thing < things;
        }

        boolean hadCard(int card) {
            return held && card >= 0 && card < cards;
        }

        int ofPerson(int person, int what) {
            switch (what) {
                case 0: return meeting.minute == 0 ? 0 : 1000 * meeting.spoke[person] / meeting.minute;
                case 1: return meeting.stops[person];
                case 2: return meeting.takenOver[person];
                default: return there[person];
            }
        }
    }

    private static void asTheyCame(int[] agenda) {
        for (int i = 0; i < agenda.length; i++) {
            agenda[i] = i;
        }
    }

    /** Meetings held in thought only: which rule, order and timer are best, and which rules a film shows. */
    private static final class Thought {
        private final Table table;
        private final Meeting meeting;
        private final int[] agenda = new int[THINGS];
        private final int[] answers = new int[3 * ANSWERS];
        // The table's version for which each question was thought out.
        private final int[] version = {-1, -1, -1};

        Thought(Table table) {
            this.table = table;
            meeting = new Meeting(table);
        }

        int answer(int question, int what) {
            if (what < 0 || what >= ANSWERS) {
                return BAD;
            }
            if (table.isBare() || question == ASK_ORDER && table.things > ORDERED_THINGS) {
                return STATE;
            }
            if (version[question] != table.version) {
                answers[question * ANSWERS] = NOT;
                asTheyCame(agenda);
                switch (question) {
                    case ASK_RULE: tryRules(); break;
                    case ASK_ORDER: tryOrders(); break;
                    default: tryTimers(); break;
                }
                version[question] = table.version;
            }
            return answers[question * ANSWERS + what];
        }

        private void tryRules() {
            for (int r = 0; r < RULES; r++) {
                meeting.hold(agenda, r, table.settings[TIMER], NOBODY);
                compare(ASK_RULE, r);
            }
        }

        private void tryTimers() {
            for (int t = 1; t <= TIMERS; t++) {
                meeting.hold(agenda, table.settings[RULE_IN_FORCE], t, NOBODY);
                compare(ASK_TIMER, t);
            }
        }

        private void tryOrders() {
            boolean goesOn = true;
            for (int i = 0; i < ORDERS && goesOn; i++) {
                meeting.hold(agenda, table.settings[RULE_IN_FORCE], table.settings[TIMER], NOBODY);
                compare(ASK_ORDER, digits());
                goesOn = nextOrder();
            }
        }

        /** Of like ones the first stays, since they are tried from the first on. */
        private void compare(int question, int tried) {
            int at = question * ANSWERS;
            int wrong = Integer.bitCount(meeting.wrong());
            int cost = meeting.cost();
            if (answers[at] == NOT || wrong < answers[at + 1] || wrong == answers[at + 1] && cost < answers[at + 2]) {
                answers[at] = tried;
                answers[at + 1] = wrong;
                answers[at + 2] = cost;
            }
        }

        private int digits() {
            int digits = 0;
            for (int i = 0; i < table.things; i++) {
                digits = digits * 10 + agenda[i] + 1;
            }
            return digits;
        }

        /** The next greater order as digits; false behind the last one. */
        private boolean nextOrder() {
            int fall = table.things - 2;
            while (fall >= 0 && agenda[fall] > agenda[fall + 1]) {
                fall--;
            }
            if (fall < 0) {
                return false;
            }
            int greater = table.things - 1;
            while (greater > fall && agenda[greater] < agenda[fall]) {
                greater--;
            }
            swap(fall, greater);
            for (int i = fall + 1, j = table.things - 1; i < j; i++, j--) {
                swap(i, j);
            }
            return true;
        }

        private void swap(int i, int j) {
            int former = agenda[i];
            agenda[i] = agenda[j];
            agenda[j] = former;
        }

        int rulesOf(Shelf shown) {
            int bits = 0;
            asTheyCame(agenda);
            for (int r = 0; r < RULES; r++) {
                meeting.hold(agenda, r, table.settings[TIMER], NOBODY);
                bits |= isShown(shown) ? 1 << r : 0;
            }
            return bits;
        }

        private boolean isShown(Shelf shown) {
            if (meeting.sayings < shown.length) {
                return false;
            }
            for (int i = 0; i < shown.length; i++) {
                if (shown.elements[i] != meeting.log[i * PARTS + WHO]) {
                    return false;
                }
            }
            return true;
        }

        int wishNow(int person, int thing) {
            meeting.clear();
            return table.text.value(meeting.namesOf(person, thing));
        }
    }

    /** The changes that may be undone, and behind them those that may be done again. */
    private static final class Changes {
        static final int KEPT = 40;
        final int[] number = new int[KEPT];
        final int[] what = new int[KEPT];
        final int[] before = new int[KEPT];
        final int[] after = new int[KEPT];
        int done;
        int size;

        void note(int numberOf, int whatOf, int was, int is) {
            if (done >= KEPT) {
                dropOldest();
            }
            number[done] = numberOf;
            what[done] = whatOf;
            before[done] = was;
            after[done] = is;
            done++;
            size = done;
        }

        private void dropOldest() {
            System.arraycopy(number, 1, number, 0, KEPT - 1);
            System.arraycopy(what, 1, what, 0, KEPT - 1);
            System.arraycopy(before, 1, before, 0, KEPT - 1);
            System.arraycopy(after, 1, after, 0, KEPT - 1);
            done = KEPT - 1;
        }

        boolean goBack() {
            if (done == 0) {
                return false;
            }
            done--;
            return true;
        }

        boolean goOn() {
            if (done >= size) {
                return false;
            }
            done++;
            return true;
        }
    }

    /** A shelf: nothing, a saying, or a row. */
    private static final class Shelf {
        int sort = EMPTY_SHELF;
        int body = NOBODY;
        int length;
        final long[] elements = new long[ELEMENTS];

        void holdBody(int number) {
            sort = number < 0 ? EMPTY_SHELF : SAYING_SHELF;
            body = number;
            length = 0;
        }

        void holdRow(int sortOf, int n) {
            sort = sortOf;
            body = NOBODY;
            length = n;
            Arrays.fill(elements, 0L);
        }

        int refusalAt(int i) {
            if (sort == EMPTY_SHELF) {
                return NOTHING_THERE;
            }
            if (sort == SAYING_SHELF) {
                return OTHER_KIND;
            }
            return i < 0 || i >= length ? NO_PLACE : 0;
        }

        boolean hasRun(int from, int n) {
            return n >= 0 && n <= length && from >= 0 && from <= length - n;
        }

        void store(int i, long v) {
            switch (sort) {
                case BYTES: elements[i] = (byte) v; break;
                case SHORTS: elements[i] = (short) v; break;
                case INTS: elements[i] = (int) v; break;
                case LONGS: elements[i] = v; break;
                default: elements[i] = v != 0 ? 1 : 0; break;
            }
        }
    }

    /** The bodies, and the acts that come to them from their own kind or from a kind above. */
    private static final class Acts {
        static final int BODIES = 50, KINDS = 8, ACTS = 4, KEPT = 24, DEEPEST = 40;
        static final int KNOWS = 0, SPEAKS = 1, STOPS = 2, DECIDES = 3;
        static final int[] ABOVE = {-1, 0, 0, 2, 0, 3, 0, 4};
        // For each kind its own knows, speaks, stops, decides; 0 where it has none. The first kind has all.
        static final int[] OWN = {
            1, 10, 11, 2,
            20, 0, 0, 0,
            0, 30, 0, 0,
            0, 41, 40, 0,
            0, 0, 50, 0,
            0, 0, 0, 60,
            70, 0, 0, 0,
            0, 80, 0, 81
        };

        final int[] traced = new int[KEPT];
        int bodies;
        int ran;
        private final int[] kinds = new int[BODIES];
        private int self;
        private int kind;

        int addBody(int kindOf) {
            kinds[bodies] = kindOf;
            return bodies++;
        }

        int kindOf(int number) {
            return number >= 0 && number < bodies ? kinds[number] : 0;
        }

        static boolean isUnder(int lower, int upper) {
            int at = lower;
            for (int i = 0; i < KINDS && at >= 0; i++) {
                if (at == upper) {
                    return true;
                }
                at = ABOVE[at];
            }
            return false;
        }

        int begin(int number, int wanted, int x) {
            self = number;
            kind = kindOf(number);
            return run(kind, wanted, x, 0);
        }

        /** The act's body of this kind, or of the next kind above that has one, for the saying that acts. */
        private int run(int from, int wanted, int x, int depth) {
            int at = from;
            for (int i = 0; i < KINDS && at > 0 && OWN[at * ACTS + wanted] == 0; i++) {
                at = ABOVE[at];
            }
            if (at < 0 || depth > DEEPEST) {
                return 0;
            }
            int number = OWN[at * ACTS + wanted];
            mark(number);
            int up = ABOVE[at];
            int deeper = depth + 1;
            switch (number) {
                case 1: return x + self;
                case 2: return run(kind, SPEAKS, x, deeper) - run(kind, STOPS, 1, deeper);
                case 10: return run(kind, KNOWS, x, deeper) * 2;
                case 11: return x ^ self;
                case 20: return run(up, KNOWS, x, deeper) + 3;
                case 30: return -run(up, SPEAKS, x, deeper);
                case 40: return run(up, STOPS, x, deeper) * 3;
                case 41: return run(up, SPEAKS, x + 1, deeper);
                case 50: return run(up, STOPS, x, deeper) - run(kind, KNOWS, 2, deeper);
                case 60: return run(up, DECIDES, x, deeper) ^ 5;
                case 70: return run(up, KNOWS, x, deeper) * 2;
                case 80: return run(up, SPEAKS, x, deeper) + run(kind, STOPS, 2, deeper);
                case 81: return run(up, DECIDES, x, deeper) - 1;
                default: return 0;
            }
        }

        private void mark(int number) {
            if (ran < KEPT) {
                traced[ran] = number;
            }
            ran++;
        }
    }
}
