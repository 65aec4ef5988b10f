/** One bullet that is left in a province and shared by its duellists; the document's promises 1 to 38. */
public final class OneBullet {
    public static final int NONE = -1;

    // What a call is REFUSED by.
    private static final int WRONG = -1;
    private static final int MISSING = -2;
    private static final int BLOCKED = -3;
    private static final int FULL = -5;
    private static final int UNREADABLE = -6;
    private static final int REFUSALS = 5;

    private static final int PLACES_MOST = 12;
    private static final int PEOPLE_MOST = 10;
    private static final int QUARRELS_MOST = 7;
    private static final int LOG_MOST = 24;
    private static final int LAWS_MOST = 6;
    private static final int UNDO_MOST = 16;
    private static final int IMAGES_MOST = 2;
    private static final int WEIGHT_MOST = 999;
    private static final int DAY_MOST = 999;
    private static final int FLAT_MOST = 99;
    private static final int RUST_MOST = 99;
    private static final int HARD_MOST = 99;
    private static final int DEEP_MOST = 20;
    private static final int AIM_MOST = 10;
    private static final int SPADES_MOST = 9;
    private static final int MARKS_MOST = 3;
    private static final int REST_MOST = 99;
    private static final int SEED_MOST = 1000000;
    private static final int SEASON_MOST = 30;
    private static final int SEASON_REST = 3;
    private static final int HURT_DAYS = 7;
    private static final int LAKE = 2;
    private static final int KIND_MOST = 3;
    private static final int ALL_ODDS = 100000000;

    private static final int[] BULLET_MOST = {999, 99, 99};
    private static final int[] TERM_LEAST = {0, 1, 1, 1, 0};
    private static final int[] TERM_MOST = {999, 4, 99, 9, 9};

    // Where the numbers of a Province stand in its row. The first SHOT_PART are all that a shot on
    // paper can change, so that paper copies no more than these.
    private static final int WEIGHT = 0;
    private static final int FLAT = 1;
    private static final int RUST = 2;
    private static final int LOST = 3;
    private static final int DENTS = 4;
    private static final int TERMS = DENTS + PLACES_MOST;
    private static final int DAY = TERMS;
    private static final int SHOT_PART = DAY + 1;
    private static final int ROUNDS = TERMS + 1;
    private static final int LEAST = TERMS + 2;
    private static final int SPADES = TERMS + 3;
    private static final int MOOD = TERMS + 4;
    private static final int LEAD = TERMS + 5;
    private static final int PLACES = LEAD + 2;
    private static final int PEOPLE = PLACES + 1;
    private static final int QUARRELS = PLACES + 2;
    private static final int SHOTS = PLACES + 3;
    private static final int KIND = PLACES + 4;
    private static final int HARD = KIND + PLACES_MOST;
    private static final int DEEP = HARD + PLACES_MOST;
    private static final int AIM = DEEP + PLACES_MOST;
    private static final int COURT = AIM + PEOPLE_MOST;
    private static final int HURT = COURT + PEOPLE_MOST;
    private static final int FIRST = HURT + PEOPLE_MOST;
    private static final int SECOND = FIRST + QUARRELS_MOST;
    private static final int WHERE = SECOND + QUARRELS_MOST;
    private static final int DUE = WHERE + QUARRELS_MOST;
    private static final int LOG = DUE + QUARRELS_MOST;
    private static final int PROVINCE_SIZE = LOG + LOG_MOST;

    // The two languages.
    private static final int TAPE_MOST = 400;
    private static final int CLAUSES_MOST = 12;
    private static final int PARTS_MOST = 50;
    private static final int BRACKETS_MOST = 8;
    private static final int NUMBER_MOST = 1000;
    private static final int TIMES_MOST = 20;
    private static final int VALUE_MOST = 1000000000;
    private static final int BROKEN = Integer.MIN_VALUE;
    private static final String LAW_HEADS = "aims wears flattens prices bars";
    private static final String LAW_WORDS = "person aim place kind hard dents weight flat rust day mood";
    private static final int LAW_WORD_COUNT = 11;
    private static final int AIMS = 0;
    private static final int WEARS = 1;
    private static final int FLATTENS = 2;
    private static final int PRICES = 3;
    private static final int BARS = 4;
    private static final int[] TOLD_MOST = {10, 99, 99, 9999, 1};
    private static final String ORDER_HEADS = "fire duel rest";
    private static final String ORDER_WORDS = "now weight flat rust done ended hurt dents";
    private static final int FIRES = 0;
    private static final int DUELS = 1;
    private static final int RESTS = 2;
    // "hurt" and "dents" have a word of their own for each PERSON, each PLACE.
    private static final int HURT_WORD = 6;
    private static final int HURT_WORDS = 6;
    private static final int DENTS_WORDS = HURT_WORDS + PEOPLE_MOST;
    private static final int ORDER_WORD_COUNT = DENTS_WORDS + PLACES_MOST;

    // What a read TEXT tells to do: the low four bits of a step; what it does it with stands above them.
    private static final int PUSH_NUMBER = 0;
    private static final int PUSH_WORD = 1;
    private static final int ADD = 2;
    private static final int TAKE = 3;
    private static final int TIMES = 4;
    private static final int DIVIDE = 5;
    private static final int REST_OF = 6;
    private static final int LESS = 7;
    private static final int MORE = 8;
    private static final int SAME = 9;
    private static final int NOT = 10;
    private static final int OR = 11;
    private static final int AND = 12;
    private static final int STEP_BITS = 4;
    private static final int STEP_MASK = 15;

    // Where the numbers of a CLAUSE stand: the first SUM, the second, the TEST are neighbours.
    private static final int HEAD = 0;
    private static final int REPEATS = 1;
    private static final int SUM_FROM = 2;
    private static final int NEXT_FROM = 3;
    private static final int TEST_FROM = 4;
    private static final int TEST_TO = 5;
    private static final int CLAUSE_SIZE = 6;

    private static final int NO_TOKEN = 0;
    private static final int LETTERS = 1;
    private static final int DIGITS = 2;
    private static final int SIGN = 3;

    private static final int ROW_BITS = 4;
    private static final int ROW_MASK = 15;

    private static final int DRAWN_SIZE = 6;
    private static final int DRAWN_DAY = 4;
    private static final int DRAWN_QUARRELS = 5;

    private final Province now = new Province();
    private final Book book = new Book();
    private final Tape tape = new Tape();
    private final Reader reader;
    private final Rules rules;
    private final Past past = new Past();
    private final Deeds deeds;
    private final Paper paper;
    private final Rows rows;
    private final Province[] imageProvinces = new Province[IMAGES_MOST];
    private final Book[] imageBooks = new Book[IMAGES_MOST];
    private final int[] refusals = new int[REFUSALS];
    private int latestRefusal = 0;
    private int latestFault = NONE;
    private int latestChips = 0;
    private int latestStop = NONE;

    public OneBullet() {
        Reckoner reckoner = new Reckoner();
        now.found();
        reader = new Reader(tape);
        rules = new Rules(book, reckoner);
        deeds = new Deeds(now, rules, past, reckoner);
        paper = new Paper(now, rules);
        rows = new Rows(now, rules);
    }

    public int put(int what, int value) {
        if (what < 0 || what >= BULLET_MOST.length || value < 0 || value > BULLET_MOST[what]) {
            return refuse(WRONG);
        }
        int was = now.n[WEIGHT + what];
        now.n[WEIGHT + what] = value;
        return settleAnew(was);
    }

    public int bullet(int what) {
        if (what == 4) {
            return now.canBeFired() ? 1 : 0;
        }
        if (what == 5) {
            return now.shotAt(now.n[SHOTS] - 1);
        }
        return what >= 0 && what <= LOST ? now.n[WEIGHT + what] : NONE;
    }

    public int place(int kind, int hard, int deep) {
        if (!isPlace(kind, hard, deep)) {
            return refuse(WRONG);
        }
        if (now.n[PLACES] >= PLACES_MOST) {
            return refuse(FULL);
        }
        return settleAnew(now.addPlace(kind, hard, deep));
    }

    public int at(int place, int what) {
        if (!now.hasPlace(place)) {
            return NONE;
        }
        switch (what) {
            case 0: return now.n[KIND + place];
            case 1: return now.n[HARD + place];
            case 2: return now.n[DEEP + place];
            case 3: return now.n[DENTS + place];
            case 4: return rules.ask(now, WEARS, NONE, place);
            case 5: return rules.ask(now, FLATTENS, NONE, place);
            case 6: return rules.ask(now, PRICES, NONE, place);
            default: return NONE;
        }
    }

    public int person(int aim, int court) {
        if (aim < 0 || aim > AIM_MOST || court < 0 || court > 1) {
            return refuse(WRONG);
        }
        if (now.n[PEOPLE] >= PEOPLE_MOST) {
            return refuse(FULL);
        }
        return settleAnew(now.addPerson(aim, court));
    }

    public int of(int person, int what) {
        if (!now.hasPerson(person) || what < 0) {
            return NONE;
        }
        switch (what) {
            case 0: return now.n[AIM + person];
            case 1: return now.n[COURT + person];
            case 2: return now.n[HURT + person];
            case 3: return now.isHurt(person) ? 1 : 0;
            default: return now.hasPlace(what - 4) ? rules.ask(now, AIMS, person, what - 4) : NONE;
        }
    }

    public int quarrel(int first, int second, int place, int due) {
        if (first == second || due < 0 || due > DAY_MOST) {
            return refuse(WRONG);
        }
        if (!now.hasPerson(first) || !now.hasPerson(second) || !now.hasPlace(place)) {
            return refuse(MISSING);
        }
        if (now.n[QUARRELS] >= QUARRELS_MOST) {
            return refuse(FULL);
        }
        return settleAnew(now.addQuarrel(first, second, place, due));
    }

    public int about(int quarrel, int what) {
        if (!now.hasQuarrel(quarrel)) {
            return NONE;
        }
        switch (what) {
            case 0: return now.n[FIRST + quarrel];
            case 1: return now.n[SECOND + quarrel];
            case 2: return now.n[WHERE + quarrel];
            case 3: return now.n[DUE + quarrel];
            case 4: return rules.canBeHad(now, quarrel) ? 1 : 0;
            default: return NONE;
        }
    }

    public int terms(int what, int value) {
        if (what < 0 || what >= TERM_MOST.length || value < TERM_LEAST[what] || value > TERM_MOST[what]) {
            return refuse(WRONG);
        }
        int was = now.n[TERMS + what];
        now.n[TERMS + what] = value;
        return settleAnew(was);
    }

    public int feed(int a, int b, int c, int d, int e) {
        if (!tape.hasRoomFor(20)) {
            return NONE;
        }
        tape.take(a);
        tape.take(b);
        tape.take(c);
        tape.take(d);
        tape.take(e);
        return tape.length;
    }

    public int end(int n) {
        if (n < 0 || n > tape.length) {
            return NONE;
        }
        tape.length = n;
        return n;
    }

    public int row() {
        if (tape.length == 0) {
            return refuse(UNREADABLE);
        }
        int came = 0;
        latestChips = 0;
        for (int i = 0; i < tape.length; i += 3) {
            if (placeFromTape(i)) {
                came++;
            } else {
                latestChips++;
            }
        }
        tape.length = 0;
        return settleAnew(came);
    }

    public int chips() {
        return latestChips;
    }

    public int law() {
        if (book.count >= LAWS_MOST) {
            tape.length = 0;
            return refuse(FULL);
        }
        latestFault = reader.read(false);
        tape.length = 0;
        if (latestFault != NONE) {
            return refuse(UNREADABLE);
        }
        return settle(book.add(new Text(reader.text)));
    }

    public int orders() {
        latestStop = NONE;
        latestFault = reader.read(true);
        tape.length = 0;
        if (latestFault != NONE) {
            return refuse(UNREADABLE);
        }
        deeds.begin();
        for (int clause = 0; clause < reader.text.clauses; clause++) {
            if (!deeds.runClause(reader.text, clause)) {
                latestStop = clause;
                deeds.giveUp();
                return refuse(BLOCKED);
            }
        }
        return settle(deeds.done);
    }

    public int fault() {
        return latestFault;
    }

    public int stopped() {
        return latestStop;
    }

    public int force(int law) {
        if (law < NONE || law >= book.count) {
            return refuse(MISSING);
        }
        int was = book.inForce;
        book.inForce = law;
        return settle(was);
    }

    public int barred(int person, int place) {
        if (!now.hasPerson(person) || !now.hasPlace(place)) {
            return NONE;
        }
        return rules.ask(now, BARS, person, place);
    }

    public int fire(int person, int place) {
        return settleDeed(deeds.tryFire(person, place));
    }

    public int duel(int quarrel, int seed) {
        return settleDeed(deeds.tryDuel(quarrel, seed));
    }

    public int rest(int days) {
        return settleDeed(deeds.tryRest(days));
    }

    public int undo() {
        if (past.count == 0) {
            return refuse(BLOCKED);
        }
        return settle(past.takeBack(now));
    }

    public int log(int i) {
        return now.shotAt(i);
    }

    public int odds(int quarrel, int what) {
        if (!now.hasQuarrel(quarrel) || what < 0 || what > 3) {
            return NONE;
        }
        return paper.oddsOf(quarrel, what);
    }

    public int queue(int what) {
        rows.lookForRows();
        if (what == 0) {
            return rows.found;
        }
        if (rows.found == 0) {
            return NONE;
        }
        if (what == 21) {
            return rows.weightLeft;
        }
        int quarrels = now.n[QUARRELS];
        if (what >= 1 && what < 1 + quarrels) {
            return Rows.inRow(rows.firstRow, quarrels, what - 1);
        }
        if (what >= 11 && what < 11 + quarrels) {
            return Rows.inRow(rows.bestRow, quarrels, what - 11);
        }
        return NONE;
    }

    public int spades() {
        return rows.fewestSpades();
    }

    public int free(int what) {
        if (what < 0 || what > 1) {
            return NONE;
        }
        int chosen = paper.freeQuarrels();
        return what == 0 ? Integer.bitCount(chosen) : chosen;
    }

    public int marks(int n, int weight, int flat, int i) {
        if (n < 1 || n > MARKS_MOST || i < NONE || i >= n || !canBeWeighed(weight, flat)) {
            return NONE;
        }
        rows.lookForMarks(n, weight, flat);
        if (i == NONE) {
            return rows.found;
        }
        return rows.found == 0 ? NONE : Rows.inRow(rows.firstRow, n, i);
    }

    public int game(int what) {
        if (!now.canBeFired() || what < 0 || what > 2) {
            return NONE;
        }
        paper.play();
        if (what == 0) {
            return paper.winners > 0 ? 1 : 0;
        }
        return what == 1 ? paper.winners : paper.lowestWinner;
    }

    public int share(int court, int what) {
        int all = now.n[LEAD] + now.n[LEAD + 1];
        if (court < 0 || court > 1 || what < 0 || what > 1 || all <= 0) {
            return NONE;
        }
        int own = now.n[LEAD + court];
        int common = commonDivisor(own, all);
        return common == 0 ? NONE : (what == 0 ? own : all) / common;
    }

    public int season(int seed, int n) {
        if (seed < 0 || seed > SEED_MOST || n < 1 || n > SEASON_MOST) {
            return refuse(WRONG);
        }
        return settle(paper.drawSeason(seed, n));
    }

    public int drawn(int what) {
        if (!paper.hasSeason || what < 0 || what >= DRAWN_SIZE) {
            return NONE;
        }
        return paper.latestSeason[what];
    }

    public int image(int k) {
        if (k < 0 || k >= IMAGES_MOST) {
            return refuse(WRONG);
        }
        if (imageProvinces[k] == null || imageBooks[k] == null) {
            imageProvinces[k] = new Province();
            imageBooks[k] = new Book();
        }
        imageProvinces[k].copy(now);
        imageBooks[k].copy(book);
        return settle(0);
    }

    public int back(int k) {
        if (k < 0 || k >= IMAGES_MOST) {
            return refuse(WRONG);
        }
        if (imageProvinces[k] == null || imageBooks[k] == null) {
            return refuse(MISSING);
        }
        now.copy(imageProvinces[k]);
        book.copy(imageBooks[k]);
        return settleAnew(0);
    }

    public int count(int what) {
        if (what < 0 || what > 19) {
            return NONE;
        }
        if (what <= 3) {
            return now.n[PLACES + what];
        }
        if (what >= 18) {
            return now.n[LEAD + what - 18];
        }
        if (what >= 13) {
            return now.n[TERMS + what - 13];
        }
        if (what >= 7 && what <= 11) {
            return refusals[what - 7];
        }
        switch (what) {
            case 4: return book.count;
            case 5: return past.count;
            case 6: return tape.length;
            default: return book.inForce;
        }
    }

    public int status() {
        return latestRefusal;
    }

    private int refuse(int why) {
        latestRefusal = why;
        // There is no -4: those behind it stand one nearer.
        refusals[why > -4 ? -1 - why : -2 - why]++;
        return why;
    }

    private int settle(int answer) {
        latestRefusal = 0;
        rows.forget();
        return answer;
    }

    /** Settles what makes nothing ahead of it fit to be undone. */
    private int settleAnew(int answer) {
        past.clear();
        return settle(answer);
    }

    private int settleDeed(int answer) {
        return answer < 0 ? refuse(answer) : settle(answer);
    }

    private static boolean isPlace(int kind, int hard, int deep) {
        return kind >= 0 && kind <= KIND_MOST && hard >= 0 && hard <= HARD_MOST && deep >= 0 && deep <= DEEP_MOST;
    }

    private static boolean canBeWeighed(int weight, int flat) {
        return weight >= 0 && weight <= WEIGHT_MOST && flat >= 0 && flat <= FLAT_MOST;
    }

    private boolean placeFromTape(int from) {
        if (from + 3 > tape.length || now.n[PLACES] >= PLACES_MOST) {
            return false;
        }
        int kind = tape.bytes[from];
        int hard = tape.bytes[from + 1];
        int deep = tape.bytes[from + 2];
        if (!isPlace(kind, hard, deep)) {
            return false;
        }
        now.addPlace(kind, hard, deep);
        return true;
    }

    private static int commonDivisor(int a, int b) {
        int large = b;
        int small = a;
        for (int i = 0; i < 64 && small != 0; i++) {
            int left = large % small;
            large = small;
            small = left;
        }
        return large;
    }

    /** All that deeds change and images keep, the LAWS aside, as one row of numbers. */
    private static final class Province {
        final int[] n = new int[PROVINCE_SIZE];

        void found() {
            n[WEIGHT] = 100;
            n[ROUNDS] = 2;
            n[LEAST] = 20;
            n[SPADES] = 1;
        }

        void copy(Province other) {
            System.arraycopy(other.n, 0, n, 0, PROVINCE_SIZE);
        }

        boolean hasPlace(int place) {
            return place >= 0 && place < n[PLACES];
        }

        boolean hasPerson(int person) {
            return person >= 0 && person < n[PEOPLE];
        }

        boolean hasQuarrel(int quarrel) {
            return quarrel >= 0 && quarrel < n[QUARRELS];
        }

        boolean canBeFired() {
            return n[LOST] == 0 && n[WEIGHT] >= n[LEAST];
        }

        boolean isHurt(int person) {
            return n[DAY] < n[HURT + person];
        }

        int shotAt(int i) {
            return i >= 0 && i < n[SHOTS] ? n[LOG + i] : NONE;
        }

        int addPlace(int kind, int hard, int deep) {
            int place = n[PLACES];
            n[KIND + place] = kind;
            n[HARD + place] = hard;
            n[DEEP + place] = deep;
            n[DENTS + place] = 0;
            n[PLACES] = place + 1;
            return place;
        }

        int addPerson(int aim, int court) {
            int person = n[PEOPLE];
            n[AIM + person] = aim;
            n[COURT + person] = court;
            n[HURT + person] = 0;
            n[PEOPLE] = person + 1;
            return person;
        }

        int addQuarrel(int first, int second, int place, int due) {
            int quarrel = n[QUARRELS];
            n[FIRST + quarrel] = first;
            n[SECOND + quarrel] = second;
            n[WHERE + quarrel] = place;
            n[DUE + quarrel] = due;
            n[QUARRELS] = quarrel + 1;
            return quarrel;
        }

        void dropQuarrel(int quarrel) {
            int behind = n[QUARRELS] - 1 - quarrel;
            for (int column = FIRST; column <= DUE; column += QUARRELS_MOST) {
                System.arraycopy(n, column + quarrel + 1, n, column + quarrel, behind);
            }
            n[QUARRELS]--;
        }

        void noteShot(int target) {
            if (n[SHOTS] >= LOG_MOST) {
                System.arraycopy(n, LOG + 1, n, LOG, LOG_MOST - 1);
                n[SHOTS] = LOG_MOST - 1;
            }
            n[LOG + n[SHOTS]] = target;
            n[SHOTS]++;
        }

        /** RUST grows by the DAYS that really pass: none do at the last one. */
        void passDays(int days) {
            int passed = Math.min(days, DAY_MOST - n[DAY]);
            n[DAY] += passed;
            n[RUST] = Math.min(RUST_MOST, n[RUST] + passed);
        }
    }

    private static final class Tape {
        final int[] bytes = new int[TAPE_MOST];
        int length = 0;

        boolean hasRoomFor(int more) {
            return length + more <= TAPE_MOST;
        }

        void take(int four) {
            for (int shift = 24; shift >= 0 && length < TAPE_MOST; shift -= 8) {
                bytes[length] = four >> shift & 255;
                length++;
            }
        }
    }

    /** A TEXT that was read: steps for a Reckoner, and where the parts of its CLAUSES stand among them. */
    private static final class Text {
        final int[] steps;
        final int[] clauseRows;
        int length;
        int clauses;

        Text() {
            steps = new int[TAPE_MOST];
            clauseRows = new int[CLAUSES_MOST * CLAUSE_SIZE];
        }

        /** A copy that takes no more room than it must. */
        Text(Text other) {
            length = other.length;
            clauses = other.clauses;
            steps = new int[length];
            clauseRows = new int[clauses * CLAUSE_SIZE];
            System.arraycopy(other.steps, 0, steps, 0, length);
            System.arraycopy(other.clauseRows, 0, clauseRows, 0, clauseRows.length);
        }

        int get(int clause, int what) {
            return clauseRows[clause * CLAUSE_SIZE + what];
        }

        void set(int clause, int what, int value) {
            clauseRows[clause * CLAUSE_SIZE + what] = value;
        }

        void addStep(int step, int with) {
            if (length < steps.length) {
                steps[length] = with << STEP_BITS | step;
                length++;
            }
        }
    }

    /** Reads the TAPE as a TEXT of either language, token by token; what reads a part tells whether it could. */
    private static final class Reader {
        final Text text = new Text();
        private final Tape tape;
        private boolean readsOrders;
        private int tokenKind;
        private int tokenFrom;
        private int tokenTo;
        private int number;
        private int parts;
        private int brackets;

        Reader(Tape tape) {
            this.tape = tape;
        }

        /** FAULT, NONE without. */
        int read(boolean asOrders) {
            readsOrders = asOrders;
            text.length = 0;
            text.clauses = 0;
            tokenTo = 0;
            parts = 0;
            brackets = 0;
            nextToken();
            for (int clause = 0; clause < CLAUSES_MOST; clause++) {
                if (!(readsOrders ? readOrder(clause) : readLawClause(clause))) {
                    return tokenFrom;
                }
                text.clauses = clause + 1;
                if (tokenKind == NO_TOKEN) {
                    return NONE;
                }
                if (!isSign(';')) {
                    return tokenFrom;
                }
                nextToken();
            }
            return tokenFrom;
        }

        private boolean readLawClause(int clause) {
            int head = wordAmong(LAW_HEADS);
            if (head == NONE) {
                return false;
            }
            text.set(clause, HEAD, head);
            text.set(clause, REPEATS, 1);
            text.set(clause, SUM_FROM, text.length);
            nextToken();
            if (head != BARS && !readSum()) {
                return false;
            }
            text.set(clause, NEXT_FROM, text.length);
            return readIf(clause);
        }

        private boolean readOrder(int clause) {
            int head = wordAmong(ORDER_HEADS);
            if (head == NONE) {
                return false;
            }
            text.set(clause, HEAD, head);
            text.set(clause, SUM_FROM, text.length);
            nextToken();
            if (!readSum()) {
                return false;
            }
            text.set(clause, NEXT_FROM, text.length);
            if (head != RESTS) {
                if (wordAmong(head == FIRES ? "at" : "by") == NONE) {
                    return false;
                }
                nextToken();
                if (!readSum()) {
                    return false;
                }
            }
            return readTimes(clause) && readIf(clause);
        }

        private boolean readTimes(int clause) {
            text.set(clause, REPEATS, 1);
            if (wordAmong("times") == NONE) {
                return true;
            }
            nextToken();
            if (tokenKind != DIGITS || number < 1 || number > TIMES_MOST) {
                return false;
            }
            text.set(clause, REPEATS, number);
            nextToken();
            return true;
        }

        private boolean readIf(int clause) {
            text.set(clause, TEST_FROM, text.length);
            boolean good = true;
            if (wordAmong("if") != NONE) {
                nextToken();
                good = readTest();
            }
            text.set(clause, TEST_TO, text.length);
            return good;
        }

        private boolean readTest() {
            if (!readBoth()) {
                return false;
            }
            for (int i = 0; i < TAPE_MOST && wordAmong("or") != NONE; i++) {
                int jump = text.length;
                text.addStep(OR, 0);
                nextToken();
                if (!readBoth()) {
                    return false;
                }
                aimJump(jump, OR);
            }
            return true;
        }

        private boolean readBoth() {
            if (!readPlain()) {
                return false;
            }
            for (int i = 0; i < TAPE_MOST && wordAmong("and") != NONE; i++) {
                int jump = text.length;
                text.addStep(AND, 0);
                nextToken();
                if (!readPlain()) {
                    return false;
                }
                aimJump(jump, AND);
            }
            return true;
        }

        /** A jump goes to what comes behind all that was read by now. */
        private void aimJump(int jump, int step) {
            if (jump < text.length) {
                text.steps[jump] = text.length << STEP_BITS | step;
            }
        }

        private boolean readPlain() {
            boolean turned = false;
            // A loop, not a call for each: a TEXT may have nearly a hundred "not" in a row.
            for (int i = 0; i < TAPE_MOST && wordAmong("not") != NONE; i++) {
                turned = !turned;
                nextToken();
            }
            if (isSign('(')) {
                if (!readBracketedTest()) {
                    return false;
                }
            } else {
                if (!readSum()) {
                    return false;
                }
                int step = isSign('<') ? LESS : isSign('>') ? MORE : isSign('=') ? SAME : NONE;
                if (step == NONE) {
                    return false;
                }
                nextToken();
                if (!readSum()) {
                    return false;
                }
                text.addStep(step, 0);
            }
            if (turned) {
                text.addStep(NOT, 0);
            }
            return true;
        }

        private boolean readBracketedTest() {
            if (brackets >= BRACKETS_MOST) {
                return false;
            }
            brackets++;
            nextToken();
            if (!readTest() || !isSign(')')) {
                return false;
            }
            brackets--;
            nextToken();
            return true;
        }

        private boolean readSum() {
            if (!readTerm()) {
                return false;
            }
            for (int i = 0; i < TAPE_MOST && (isSign('+') || isSign('-')); i++) {
                int step = isSign('+') ? ADD : TAKE;
                nextToken();
                if (!readTerm()) {
                    return false;
                }
                text.addStep(step, 0);
            }
            return true;
        }

        private boolean readTerm() {
            if (!readPart()) {
                return false;
            }
            for (int i = 0; i < TAPE_MOST && (isSign('*') || isSign('/') || isSign('%')); i++) {
                int step = isSign('*') ? TIMES : isSign('/') ? DIVIDE : REST_OF;
                nextToken();
                if (!readPart()) {
                    return false;
                }
                text.addStep(step, 0);
            }
            return true;
        }

        private boolean readPart() {
            if (isSign('[')) {
                return readBracketedSum();
            }
            if (parts >= PARTS_MOST) {
                return false;
            }
            parts++;
            int word = wordAmong(readsOrders ? ORDER_WORDS : LAW_WORDS);
            boolean isNumber = tokenKind == DIGITS && number <= NUMBER_MOST;
            if (!isNumber && word == NONE) {
                return false;
            }
            int with = isNumber ? number : word;
            nextToken();
            if (readsOrders && word >= HURT_WORD) {
                if (tokenKind != DIGITS || number >= (word == HURT_WORD ? PEOPLE_MOST : PLACES_MOST)) {
                    return false;
                }
                with = (word == HURT_WORD ? HURT_WORDS : DENTS_WORDS) + number;
                nextToken();
            }
            text.addStep(isNumber ? PUSH_NUMBER : PUSH_WORD, with);
            return true;
        }

        private boolean readBracketedSum() {
            if (brackets >= BRACKETS_MOST) {
                return false;
            }
            brackets++;
            nextToken();
            if (!readSum() || !isSign(']')) {
                return false;
            }
            brackets--;
            nextToken();
            return true;
        }

        private boolean isSign(char sign) {
            return tokenKind == SIGN && tape.bytes[tokenFrom] == sign;
        }

        /** Which of the list's words, parted by single blanks, the token is. */
        private int wordAmong(String list) {
            if (tokenKind != LETTERS) {
                return NONE;
            }
            int word = 0;
            int at = tokenFrom;
            boolean same = true;
            for (int i = 0; i <= list.length(); i++) {
                if (i < list.length() && list.charAt(i) != ' ') {
                    same = same && at < tokenTo && tape.bytes[at] == list.charAt(i);
                    at++;
                } else if (same && at == tokenTo) {
                    return word;
                } else {
                    word++;
                    at = tokenFrom;
                    same = true;
                }
            }
            return NONE;
        }

        private void nextToken() {
            int at = tokenTo;
            while (at < tape.length && tape.bytes[at] == ' ') {
                at++;
            }
            tokenFrom = at;
            tokenKind = kindAt(at);
            number = 0;
            boolean goesOn = tokenKind != NO_TOKEN;
            while (at < tape.length && goesOn) {
                // Further digits can't make it small again, and would make it wrap around.
                if (tokenKind == DIGITS && number <= NUMBER_MOST) {
                    number = number * 10 + tape.bytes[at] - '0';
                }
                at++;
                goesOn = tokenKind != SIGN && kindAt(at) == tokenKind;
            }
            tokenTo = at;
        }

        private int kindAt(int at) {
            if (at >= tape.length) {
                return NO_TOKEN;
            }
            int sign = tape.bytes[at];
            if (sign >= 'a' && sign <= 'z') {
                return LETTERS;
            }
            return sign >= '0' && sign <= '9' ? DIGITS : SIGN;
        }
    }

    /** Reckons SUMS and TESTS (1 so, 0 not so) out of a TEXT's steps. */
    private static final class Reckoner {
        // Only PARTS are pushed, so that there are never more than these.
        private final int[] stack = new int[PARTS_MOST + 1];

        /**
         * BROKEN as soon as anything that is asked is: it breaks all that it stands in. 1, so that
         * it is so, for a TEST that isn't there.
         */
        int reckon(Text text, int from, int to, int[] words) {
            if (from >= to) {
                return 1;
            }
            int[] steps = text.steps;
            int height = 0;
            for (int at = from; at < to && at < steps.length; at++) {
                int step = steps[at] & STEP_MASK;
                int with = steps[at] >> STEP_BITS;
                if (step <= PUSH_WORD) {
                    if (height >= stack.length || step == PUSH_WORD && with >= words.length) {
                        return BROKEN;
                    }
                    stack[height] = step == PUSH_NUMBER ? with : words[with];
                    height++;
                } else if (height < 1) {
                    return BROKEN;
                } else if (step == NOT) {
                    stack[height - 1] = 1 - stack[height - 1];
                } else if (step == OR || step == AND) {
                    boolean settled = (stack[height - 1] != 0) == (step == OR);
                    if (!settled) {
                        height--;
                    } else if (with > at) {
                        at = with - 1;
                    }
                } else if (height < 2) {
                    return BROKEN;
                } else {
                    height--;
                    long value = join(step, stack[height - 1], stack[height]);
                    if (value > VALUE_MOST || value < -VALUE_MOST) {
                        return BROKEN;
                    }
                    stack[height - 1] = (int) value;
                }
            }
            return height == 1 ? stack[0] : BROKEN;
        }

        private static long join(int step, long a, long b) {
            switch (step) {
                case ADD: return a + b;
                case TAKE: return a - b;
                case TIMES: return a * b;
                case DIVIDE: return b == 0 ? BROKEN : a / b;
                case REST_OF: return b == 0 ? BROKEN : a % b;
                case LESS: return a < b ? 1 : 0;
                case MORE: return a > b ? 1 : 0;
                default: return a == b ? 1 : 0;
            }
        }
    }

    /** The LAWS; read TEXTS are never changed, so that copies of a book share them. */
    private static final class Book {
        final Text[] laws = new Text[LAWS_MOST];
        int count = 0;
        int inForce = NONE;

        int add(Text law) {
            if (count >= LAWS_MOST) {
                return NONE;
            }
            laws[count] = law;
            count++;
            return count - 1;
        }

        Text lawInForce() {
            return inForce >= 0 && inForce < count ? laws[inForce] : null;
        }

        void copy(Book other) {
            for (int i = 0; i < LAWS_MOST; i++) {
                laws[i] = other.laws[i];
            }
            count = other.count;
            inForce = other.inForce;
        }
    }

    /** What the LAW in FORCE says of a province, on paper or not; shots and duels by it. */
    private static final class Rules {
        int seed;
        private final Book book;
        private final Reckoner reckoner;
        private final int[] words = new int[LAW_WORD_COUNT];

        Rules(Book book, Reckoner reckoner) {
            this.book = book;
            this.reckoner = reckoner;
        }

        /** What the last CLAUSE with that head that HOLDS tells (1 for "bars"), or the nearest that can be. */
        int ask(Province p, int head, int person, int place) {
            Text law = book.lawInForce();
            if (law == null) {
                return withoutLaw(p, head, person, place);
            }
            boolean areWordsSet = false;
            for (int clause = law.clauses - 1; clause >= 0; clause--) {
                if (law.get(clause, HEAD) == head) {
                    if (!areWordsSet) {
                        setWords(p, person, place);
                        areWordsSet = true;
                    }
                    if (reckoner.reckon(law, law.get(clause, TEST_FROM), law.get(clause, TEST_TO), words) > 0) {
                        // "bars" has no SUM: 1 is told then, too.
                        int told = reckoner.reckon(law, law.get(clause, SUM_FROM), law.get(clause, NEXT_FROM), words);
                        if (told != BROKEN) {
                            return Math.max(0, Math.min(TOLD_MOST[head], told));
                        }
                    }
                }
            }
            return withoutLaw(p, head, person, place);
        }

        private static int withoutLaw(Province p, int head, int person, int place) {
            switch (head) {
                case AIMS: return p.n[AIM + person];
                case WEARS: return p.n[HARD + place] / 10;
                case FLATTENS: return p.n[HARD + place] / 20;
                case PRICES: return p.n[DENTS + place] * 10;
                default: return 0;
            }
        }

        /** In the order of LAW_WORDS. */
        private void setWords(Province p, int person, int place) {
            words[0] = person;
            words[1] = person == NONE ? NONE : p.n[AIM + person];
            words[2] = place;
            words[3] = p.n[KIND + place];
            words[4] = p.n[HARD + place];
            words[5] = p.n[DENTS + place];
            words[6] = p.n[WEIGHT];
            words[7] = p.n[FLAT];
            words[8] = p.n[RUST];
            words[9] = p.n[DAY];
            words[10] = p.n[MOOD];
        }

        /** A SHOT into a PLACE. NONE instead of a PERSON: on paper, where neither LEAD nor the LOG matters. */
        void shoot(Province p, int person, int place) {
            int worn = Math.min(p.n[WEIGHT], ask(p, WEARS, NONE, place));
            int flattened = ask(p, FLATTENS, NONE, place);
            p.n[WEIGHT] -= worn;
            p.n[FLAT] = Math.min(FLAT_MOST, p.n[FLAT] + flattened);
            p.n[DENTS + place]++;
            if (person != NONE) {
                p.n[LEAD + p.n[COURT + person]] += worn;
                p.noteShot(place);
            }
            if (p.n[KIND + place] == LAKE) {
                p.n[LOST] = 1;
            } else {
                int diggers = Math.max(1, p.n[SPADES]);
                p.passDays((p.n[DEEP + place] + diggers - 1) / diggers);
            }
        }

        /** As all stands: a DUEL with a bullet that can't be FIRED doesn't begin. */
        boolean canBeHad(Province p, int quarrel) {
            int first = p.n[FIRST + quarrel];
            int second = p.n[SECOND + quarrel];
            int place = p.n[WHERE + quarrel];
            return p.canBeFired() && !p.isHurt(first) && !p.isHurt(second)
                && ask(p, BARS, first, place) == 0 && ask(p, BARS, second, place) == 0;
        }

        /** A DUEL, its shots by draws: how it ENDS. */
        int hold(Province p, int quarrel) {
            int first = p.n[FIRST + quarrel];
            int second = p.n[SECOND + quarrel];
            int place = p.n[WHERE + quarrel];
            int end = 0;
            for (int shot = 0; shot < 2 * p.n[ROUNDS] && end == 0; shot++) {
                boolean firstFires = shot % 2 == 0;
                int who = firstFires ? first : second;
                if (!p.canBeFired()) {
                    end = 3;
                } else if (draw(10) < ask(p, AIMS, who, place)) {
                    int other = firstFires ? second : first;
                    p.n[HURT + other] = p.n[DAY] + HURT_DAYS;
                    p.noteShot(PLACES_MOST + other);
                    end = firstFires ? 1 : 2;
                } else {
                    shoot(p, who, place);
                }
            }
            p.dropQuarrel(quarrel);
            return end;
        }

        int draw(int many) {
            seed = (seed * 1103 + 12345) % 1000003;
            return many < 1 ? 0 : seed % many;
        }
    }

    /** What can be undone: the province as it was ahead of each of the latest deeds. */
    private static final class Past {
        private final int[] kinds = new int[UNDO_MOST];
        private final int[] provinces = new int[UNDO_MOST * PROVINCE_SIZE];
        // The eldest one's slot: the slots go round.
        private int eldest = 0;
        int count = 0;

        void clear() {
            count = 0;
        }

        void keep(int kind, Province p) {
            if (count >= UNDO_MOST) {
                eldest = (eldest + 1) % UNDO_MOST;
                count = UNDO_MOST - 1;
            }
            int slot = (eldest + count) % UNDO_MOST;
            kinds[slot] = kind;
            System.arraycopy(p.n, 0, provinces, slot * PROVINCE_SIZE, PROVINCE_SIZE);
            count++;
        }

        int takeBack(Province p) {
            if (count < 1) {
                return NONE;
            }
            count--;
            int slot = (eldest + count) % UNDO_MOST;
            System.arraycopy(provinces, slot * PROVINCE_SIZE, p.n, 0, PROVINCE_SIZE);
            return kinds[slot];
        }

        void copy(Past other) {
            System.arraycopy(other.kinds, 0, kinds, 0, UNDO_MOST);
            System.arraycopy(other.provinces, 0, provinces, 0, provinces.length);
            eldest = other.eldest;
            count = other.count;
        }
    }

    /** Shots, duels and rests that can be undone, one by one or by ORDERS. */
    private static final class Deeds {
        int done;
        private int ended;
        private final Province now;
        private final Rules rules;
        private final Past past;
        private final Reckoner reckoner;
        private final Province nowBefore = new Province();
        private final Past pastBefore = new Past();
        private final int[] words = new int[ORDER_WORD_COUNT];

        Deeds(Province now, Rules rules, Past past, Reckoner reckoner) {
            this.now = now;
            this.rules = rules;
            this.past = past;
            this.reckoner = reckoner;
        }

        int tryFire(int person, int place) {
            if (!now.hasPerson(person) || !now.hasPlace(place)) {
                return MISSING;
            }
            if (!now.canBeFired() || now.isHurt(person) || rules.ask(now, BARS, person, place) != 0) {
                return BLOCKED;
            }
            past.keep(FIRES, now);
            rules.shoot(now, person, place);
            return now.n[WEIGHT];
        }

        int tryDuel(int quarrel, int seed) {
            if (seed < 0 || seed > SEED_MOST) {
                return WRONG;
            }
            if (!now.hasQuarrel(quarrel)) {
                return MISSING;
            }
            if (!rules.canBeHad(now, quarrel)) {
                return BLOCKED;
            }
            past.keep(DUELS, now);
            rules.seed = seed;
            return rules.hold(now, quarrel);
        }

        int tryRest(int days) {
            if (days < 1 || days > REST_MOST) {
                return WRONG;
            }
            past.keep(RESTS, now);
            now.passDays(days);
            return now.n[DAY];
        }

        /** Ahead of ORDERS: what stands is kept in case that one of them can't be. */
        void begin() {
            nowBefore.copy(now);
            pastBefore.copy(past);
            done = 0;
            ended = NONE;
        }

        void giveUp() {
            now.copy(nowBefore);
            past.copy(pastBefore);
        }

        /** Whether it could be. */
        boolean runClause(Text text, int clause) {
            int repeats = text.get(clause, REPEATS);
            for (int i = 0; i < repeats; i++) {
                setWords();
                if (reckoner.reckon(text, text.get(clause, TEST_FROM), text.get(clause, TEST_TO), words) > 0) {
                    int head = text.get(clause, HEAD);
                    int sum = reckoner.reckon(text, text.get(clause, SUM_FROM), text.get(clause, NEXT_FROM), words);
                    int next = reckoner.reckon(text, text.get(clause, NEXT_FROM), text.get(clause, TEST_FROM), words);
                    if (sum == BROKEN || next == BROKEN) {
                        return false;
                    }
                    int answer = head == FIRES ? tryFire(sum, next) : head == DUELS ? tryDuel(sum, next) : tryRest(sum);
                    if (answer < 0) {
                        return false;
                    }
                    ended = head == DUELS ? answer : ended;
                    done++;
                }
            }
            return true;
        }

        /** In the order of ORDER_WORDS, "hurt" and "dents" once for each PERSON, each PLACE. */
        private void setWords() {
            words[0] = now.n[DAY];
            words[1] = now.n[WEIGHT];
            words[2] = now.n[FLAT];
            words[3] = now.n[RUST];
            words[4] = done;
            words[5] = ended;
            for (int person = 0; person < PEOPLE_MOST; person++) {
                words[HURT_WORDS + person] = now.hasPerson(person) ? now.n[HURT + person] : NONE;
            }
            for (int place = 0; place < PLACES_MOST; place++) {
                words[DENTS_WORDS + place] = now.hasPlace(place) ? now.n[DENTS + place] : NONE;
            }
        }
    }

    /** What is reckoned on a sheet of paper, the province itself left as it is. */
    private static final class Paper {
        final int[] latestSeason = new int[DRAWN_SIZE];
        boolean hasSeason = false;
        int winners;
        int lowestWinner;
        private final Province now;
        private final Rules rules;
        private final Province sheet = new Province();
        private final int[] ends = new int[4];
        private final boolean[] wins = new boolean[WEIGHT_MOST + 1];

        Paper(Province now, Rules rules) {
            this.now = now;
            this.rules = rules;
        }

        int oddsOf(int quarrel, int what) {
            sheet.copy(now);
            int place = sheet.n[WHERE + quarrel];
            int left = ALL_ODDS;
            ends[1] = 0;
            ends[2] = 0;
            ends[3] = 0;
            for (int shot = 0; shot < 2 * sheet.n[ROUNDS] && left > 0; shot++) {
                if (!sheet.canBeFired()) {
                    ends[3] = left;
                    left = 0;
                } else {
                    int who = sheet.n[(shot % 2 == 0 ? FIRST : SECOND) + quarrel];
                    // Eight shots at most divide the odds by ten eight times: nothing is cut.
                    int hits = left / 10 * rules.ask(sheet, AIMS, who, place);
                    ends[1 + shot % 2] += hits;
                    left -= hits;
                    rules.shoot(sheet, NONE, place);
                }
            }
            ends[0] = left;
            return ends[what];
        }

        /** As bits: the most of them, and the lowest of these. */
        int freeQuarrels() {
            int chosen = 0;
            for (int bits = 1; bits < 1 << now.n[QUARRELS]; bits++) {
                if (Integer.bitCount(bits) > Integer.bitCount(chosen) && areFree(bits)) {
                    chosen = bits;
                }
            }
            return chosen;
        }

        private boolean areFree(int bits) {
            int busy = 0;
            for (int quarrel = 0; quarrel < now.n[QUARRELS]; quarrel++) {
                if ((bits >> quarrel & 1) != 0) {
                    int both = 1 << now.n[FIRST + quarrel] | 1 << now.n[SECOND + quarrel];
                    if ((busy & both) != 0) {
                        return false;
                    }
                    busy |= both;
                }
            }
            return true;
        }

        /** A GAME from the WEIGHT as it is: every WEIGHT below it is settled first. */
        void play() {
            sheet.copy(now);
            int weight = now.n[WEIGHT];
            for (int w = now.n[LEAST]; w <= weight && w <= WEIGHT_MOST; w++) {
                sheet.n[WEIGHT] = w;
                winners = 0;
                lowestWinner = NONE;
                // Only of the WEIGHT as it is all PLACES are asked for.
                for (int place = 0; place < now.n[PLACES] && (winners == 0 || w == weight); place++) {
                    if (winsInto(place)) {
                        winners++;
                        lowestWinner = lowestWinner == NONE ? place : lowestWinner;
                    }
                }
                wins[w] = winners > 0;
            }
        }

        private boolean winsInto(int place) {
            if (sheet.n[KIND + place] == LAKE) {
                return false;
            }
            int worn = rules.ask(sheet, WEARS, NONE, place);
            int left = sheet.n[WEIGHT] - worn;
            return worn > 0 && left >= sheet.n[LEAST] && !wins[left];
        }

        /** How many were hit. */
        int drawSeason(int seed, int n) {
            sheet.copy(now);
            rules.seed = seed;
            int hits = 0;
            for (int i = 0; i < n; i++) {
                int quarrels = sheet.n[QUARRELS];
                int quarrel = quarrels > 0 ? rules.draw(quarrels) : NONE;
                if (quarrel != NONE && rules.canBeHad(sheet, quarrel)) {
                    int end = rules.hold(sheet, quarrel);
                    hits += end == 1 || end == 2 ? 1 : 0;
                } else {
                    sheet.passDays(SEASON_REST);
                }
            }
            System.arraycopy(sheet.n, WEIGHT, latestSeason, 0, LOST + 1);
            latestSeason[DRAWN_DAY] = sheet.n[DAY];
            latestSeason[DRAWN_QUARRELS] = sheet.n[QUARRELS];
            hasSeason = true;
            return hits;
        }
    }

    /**
     * Rows of QUARRELS or of SHOTS on paper, tried in the order of their numbers. A row is one number, ROW_BITS for
     * each in it, the first one highest.
     */
    private static final class Rows {
        int found;
        int firstRow;
        int bestRow;
        int weightLeft;
        private final Province now;
        private final Rules rules;
        private final Province sheet = new Province();
        // The sheet ahead of the next of a row, by how many were had.
        private final int[] kept = new int[(QUARRELS_MOST + 1) * SHOT_PART];
        // Of QUARRELS that were had, as bits: how many rows were found behind them (NONE: not known), and by which
        // sheet. That is mostly the same in whatever order they were had, and need not be tried again then.
        private final int[] foundBehind = new int[1 << QUARRELS_MOST];
        private final int[] sheetsBehind = new int[SHOT_PART << QUARRELS_MOST];
        private boolean oneIsEnough;
        private int weightWanted;
        private int flatWanted;
        // Several calls ask for parts of the same rows: these stay until something happens.
        private boolean areRowsKnown = false;

        Rows(Province now, Rules rules) {
            this.now = now;
            this.rules = rules;
        }

        void forget() {
            areRowsKnown = false;
        }

        /** The i-th of a row with so many. */
        static int inRow(int row, int many, int i) {
            return row >> ROW_BITS * (many - 1 - i) & ROW_MASK;
        }

        void lookForRows() {
            if (!areRowsKnown) {
                sheet.copy(now);
                oneIsEnough = false;
                forgetBehind();
                tryQuarrels(0, 0);
                areRowsKnown = true;
            }
        }

        int fewestSpades() {
            areRowsKnown = false;
            sheet.copy(now);
            oneIsEnough = true;
            keepSheet(0);
            for (int spades = 1; spades <= SPADES_MOST; spades++) {
                resetSheet(0);
                sheet.n[SPADES] = spades;
                forgetBehind();
                tryQuarrels(0, 0);
                if (found > 0) {
                    return spades;
                }
            }
            return NONE;
        }

        void lookForMarks(int n, int weight, int flat) {
            areRowsKnown = false;
            sheet.copy(now);
            sheet.n[LEAST] = 1;
            sheet.n[LOST] = 0;
            weightWanted = weight;
            flatWanted = flat;
            found = 0;
            firstRow = NONE;
            tryShots(0, n, 0);
        }

        private void forgetBehind() {
            for (int had = 0; had < foundBehind.length; had++) {
                foundBehind[had] = NONE;
            }
        }

        private void keepSheet(int depth) {
            System.arraycopy(sheet.n, 0, kept, depth * SHOT_PART, SHOT_PART);
        }

        private void resetSheet(int depth) {
            System.arraycopy(kept, depth * SHOT_PART, sheet.n, 0, SHOT_PART);
        }

        /** Finds the rows of those QUARRELS that weren't had. Goes no deeper than there are QUARRELS. */
        private void tryQuarrels(int depth, int had) {
            int behind = sheet.n[QUARRELS] - 1 - depth;
            if (behind < 0) {
                setFound(1, 0, 0, sheet.n[WEIGHT]);
                return;
            }
            if (isKnownBehind(had)) {
                // The first and the best of these were met ahead of this, in an earlier order of the same.
                setFound(foundBehind[had], NONE, NONE, NONE);
                return;
            }
            keepSheet(depth);
            int rows = 0;
            int first = NONE;
            int best = NONE;
            int most = NONE;
            for (int quarrel = 0; quarrel <= depth + behind && !(oneIsEnough && rows > 0); quarrel++) {
                if ((had >> quarrel & 1) == 0) {
                    resetSheet(depth);
                    setFound(0, NONE, NONE, NONE);
                    if (canBeMissed(quarrel)) {
                        tryQuarrels(depth + 1, had | 1 << quarrel);
                    }
                    int ahead = quarrel << ROW_BITS * behind;
                    first = rows == 0 && found > 0 ? ahead | firstRow : first;
                    best = weightLeft > most ? ahead | bestRow : best;
                    most = Math.max(most, weightLeft);
                    rows += found;
                }
            }
            setFound(rows, first, best, most);
            foundBehind[had] = rows;
            System.arraycopy(kept, depth * SHOT_PART, sheetsBehind, had * SHOT_PART, SHOT_PART);
        }

        private void setFound(int rows, int first, int best, int weight) {
            found = rows;
            firstRow = first;
            bestRow = best;
            weightLeft = weight;
        }

        private boolean isKnownBehind(int had) {
            if (foundBehind[had] == NONE) {
                return false;
            }
            for (int i = 0; i < SHOT_PART; i++) {
                if (sheetsBehind[had * SHOT_PART + i] != sheet.n[i]) {
                    return false;
                }
            }
            return true;
        }

        /** Has the QUARREL with all shots missed: whether it was had to its end, and in time. */
        private boolean canBeMissed(int quarrel) {
            int place = sheet.n[WHERE + quarrel];
            for (int shot = 0; shot < 2 * sheet.n[ROUNDS]; shot++) {
                if (!sheet.canBeFired()) {
                    return false;
                }
                rules.shoot(sheet, NONE, place);
            }
            return sheet.n[DAY] <= sheet.n[DUE + quarrel];
        }

        /** Goes no deeper than n. */
        private void tryShots(int depth, int n, int row) {
            if (depth >= n) {
                if (sheet.n[WEIGHT] == weightWanted && sheet.n[FLAT] == flatWanted) {
                    firstRow = found == 0 ? row : firstRow;
                    found++;
                }
                return;
            }
            keepSheet(depth);
            for (int place = 0; place < sheet.n[PLACES]; place++) {
                resetSheet(depth);
                if (sheet.canBeFired() && sheet.n[KIND + place] != LAKE) {
                    rules.shoot(sheet, NONE, place);
                    tryShots(depth + 1, n, row << ROW_BITS | place);
                }
            }
        }
    }
}
