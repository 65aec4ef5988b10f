/** Edges of what stands: the bullet, places, people, quarrels, terms, the tape, rows (promises 1 to 14). */
public final class StateEdgeTest {
    private static final int LOW = Integer.MIN_VALUE;
    private static final int HIGH = Integer.MAX_VALUE;

    // ---- Promise 1: A new object. Terms I: what is so "at first".

    static void p01_theBulletAtFirst() {
        OneBullet x = new OneBullet();
        Checks.due("WEIGHT 100, FLAT 0, RUST 0, not LOST, CAN be FIRED, no shot",
            new int[] {x.bullet(0), x.bullet(1), x.bullet(2), x.bullet(3), x.bullet(4), x.bullet(5)}, 100, 0, 0, 0, 1, -1);
    }

    static void p01_termsAtFirst() {
        OneBullet x = new OneBullet();
        Checks.due("DAY, ROUNDS, LEAST, SPADES, MOOD",
            new int[] {x.count(13), x.count(14), x.count(15), x.count(16), x.count(17)}, 0, 2, 20, 1, 0);
    }

    static void p01_nothingIsThereAtFirst() {
        OneBullet x = new OneBullet();
        for (int k = 0; k < 12; k++) Checks.due("count " + k, x.count(k), 0);
        Checks.due("no LAW in FORCE", x.count(12), OneBullet.NONE);
        Checks.due("LEAD 0", new int[] {x.count(18), x.count(19)}, 0, 0);
        Checks.due("the PLACE, PERSON, QUARREL, shot 0", new int[] {x.at(0, 0), x.of(0, 0), x.about(0, 0), x.log(0)}, -1, -1, -1, -1);
        Checks.due("chips, fault, stopped, drawn, status",
            new int[] {x.chips(), x.fault(), x.stopped(), x.drawn(0), x.status()}, 0, -1, -1, -1, 0);
    }

    static void p01_objectsShareNothing() {
        OneBullet x = Checks.under("aims 1");
        x.fire(0, 0);
        OneBullet y = new OneBullet();
        Checks.due("places, people, laws, log", new int[] {y.count(0), y.count(1), y.count(4), y.count(3)}, 0, 0, 0, 0);
        Checks.due("weight", y.bullet(0), 100);
        Checks.due("weight of the other", x.bullet(0), 94);
    }

    static void p01_the512thCallStillAnswers() {
        OneBullet x = new OneBullet();
        for (int k = 0; k < 511; k++) x.terms(4, k % 10);
        Checks.due("the 512th", x.terms(4, 5), 0);
    }

    // ---- Promise 2: put. "WEIGHT 0 .. 999", "FLAT 0 .. 99", "RUST 0 .. 99".

    static void p02_weight0To999() {
        OneBullet x = new OneBullet();
        Checks.due("0", x.put(0, 0), 100);
        Checks.due("999", x.put(0, 999), 0);
        Checks.due("1000, -1, far", new int[] {x.put(0, 1000), x.put(0, -1), x.put(0, HIGH), x.put(0, LOW)}, -1, -1, -1, -1);
        Checks.due("as it was", x.bullet(0), 999);
    }

    static void p02_flat0To99() {
        OneBullet x = new OneBullet();
        Checks.due("99", x.put(1, 99), 0);
        Checks.due("100, -1, far", new int[] {x.put(1, 100), x.put(1, -1), x.put(1, HIGH), x.put(1, LOW)}, -1, -1, -1, -1);
        Checks.due("0, it was 99", x.put(1, 0), 99);
        Checks.due("flat", x.bullet(1), 0);
    }

    static void p02_rust0To99() {
        OneBullet x = new OneBullet();
        Checks.due("99", x.put(2, 99), 0);
        Checks.due("100, -1, far", new int[] {x.put(2, 100), x.put(2, -1), x.put(2, HIGH), x.put(2, LOW)}, -1, -1, -1, -1);
        Checks.due("0, it was 99", x.put(2, 0), 99);
        Checks.due("rust", x.bullet(2), 0);
    }

    static void p02_what0To2() {
        OneBullet x = new OneBullet();
        Checks.due("3, -1, far", new int[] {x.put(3, 0), x.put(-1, 0), x.put(HIGH, 0), x.put(LOW, 0)}, -1, -1, -1, -1);
        Checks.due("not lost by put(3, 1)", x.put(3, 1) * 10 + x.bullet(3), -10);
        Checks.due("refused by -1", x.count(7), 5);
    }

    // ---- Promise 3: bullet. "It CAN be FIRED, if it is not LOST, and WEIGHT is LEAST or more."

    static void p03_canBeFiredFromLeastOn() {
        OneBullet x = new OneBullet();
        x.put(0, 20);
        Checks.due("LEAST", x.bullet(4), 1);
        x.put(0, 19);
        Checks.due("one less", x.bullet(4), 0);
        x.terms(2, 19);
        Checks.due("LEAST lower", x.bullet(4), 1);
        x.terms(2, 1);
        x.put(0, 1);
        Checks.due("1 by LEAST 1", x.bullet(4), 1);
        x.put(0, 0);
        Checks.due("0 by LEAST 1", x.bullet(4), 0);
        x.terms(2, 99);
        x.put(0, 99);
        Checks.due("99 by LEAST 99", x.bullet(4), 1);
        x.put(0, 98);
        Checks.due("98 by LEAST 99", x.bullet(4), 0);
    }

    static void p03_canNotBeFiredWhenLost() {
        OneBullet x = Checks.province();
        x.fire(0, 2);
        Checks.due("lost, heavy, can't", new int[] {x.bullet(3), x.bullet(0), x.bullet(4)}, 1, 96, 0);
        x.put(0, 999);
        Checks.due("put() does not find it", new int[] {x.bullet(3), x.bullet(4)}, 1, 0);
    }

    static void p03_latestShotNoneWithout() {
        OneBullet x = Checks.province();
        Checks.due("none", x.bullet(5), OneBullet.NONE);
        x.fire(0, 1);
        x.fire(0, 0);
        Checks.due("the latest", x.bullet(5), 0);
        x.undo();
        Checks.due("the one ahead", x.bullet(5), 1);
        x.undo();
        Checks.due("none", x.bullet(5), OneBullet.NONE);
    }

    static void p03_latestShotIntoAPerson() {
        OneBullet x = Checks.province();
        x.quarrel(2, 0, 0, 0);
        x.duel(0, 0);
        Checks.due("12 more than the PERSON", x.bullet(5), 12);
    }

    static void p03_what0To5() {
        OneBullet x = new OneBullet();
        Checks.due("6, -1, far", new int[] {x.bullet(6), x.bullet(-1), x.bullet(HIGH), x.bullet(LOW)}, -1, -1, -1, -1);
        Checks.due("is no refusal", x.count(7), 0);
        OneBullet y = Checks.province();
        y.fire(0, 1);
        Checks.due("behind a shot, too", new int[] {y.bullet(5), y.bullet(6), y.bullet(-1), y.bullet(HIGH), y.bullet(LOW)}, 1, -1, -1, -1, -1);
    }

    // ---- Promise 4: place. "PLACES 0 .. 11 (12 at most): KIND 0 .. 3, HARD 0 .. 99, DEEP 0 .. 20".

    static void p04_kind0To3() {
        OneBullet x = new OneBullet();
        for (int kind = 0; kind < 4; kind++) Checks.due("kind", x.place(kind, 0, 0), kind);
        for (int kind = 0; kind < 4; kind++) Checks.due("its kind", x.at(kind, 0), kind);
        Checks.due("4, -1, far", new int[] {x.place(4, 0, 0), x.place(-1, 0, 0), x.place(HIGH, 0, 0), x.place(LOW, 0, 0)}, -1, -1, -1, -1);
        Checks.due("none came", x.count(0), 4);
    }

    static void p04_hard0To99() {
        OneBullet x = new OneBullet();
        Checks.due("0, 99", new int[] {x.place(0, 0, 0), x.place(0, 99, 0)}, 0, 1);
        Checks.due("100, -1, far", new int[] {x.place(0, 100, 0), x.place(0, -1, 0), x.place(0, HIGH, 0), x.place(0, LOW, 0)}, -1, -1, -1, -1);
        Checks.due("hard", new int[] {x.at(0, 1), x.at(1, 1), x.count(0)}, 0, 99, 2);
    }

    static void p04_deep0To20() {
        OneBullet x = new OneBullet();
        Checks.due("0, 20", new int[] {x.place(0, 0, 0), x.place(0, 0, 20)}, 0, 1);
        Checks.due("21, -1, far", new int[] {x.place(0, 0, 21), x.place(0, 0, -1), x.place(0, 0, HIGH), x.place(0, 0, LOW)}, -1, -1, -1, -1);
        Checks.due("deep", new int[] {x.at(0, 2), x.at(1, 2), x.count(0)}, 0, 20, 2);
    }

    static void p04_twelveAtMost() {
        OneBullet x = new OneBullet();
        for (int k = 0; k < 12; k++) Checks.due("place", x.place(k % 4, k, k), k);
        Checks.due("the 13th", x.place(0, 0, 0), -5);
        Checks.due("twelve still", x.count(0), 12);
        for (int k = 0; k < 12; k++) Checks.due("all are as they were", new int[] {x.at(k, 0), x.at(k, 1), x.at(k, 2)}, k % 4, k, k);
        Checks.due("there is no 12", x.at(12, 0), -1);
    }

    static void p04_wrongAheadOfNoRoom() {
        OneBullet x = new OneBullet();
        for (int k = 0; k < 12; k++) x.place(0, 0, 0);
        Checks.due("-1 comes first", new int[] {x.place(4, 0, 0), x.place(0, 100, 0), x.place(0, 0, 21)}, -1, -1, -1);
        Checks.due("by -1, by -5", new int[] {x.count(7), x.count(10)}, 3, 0);
    }

    // ---- Promise 5: at.

    static void p05_dents0AtFirst() {
        OneBullet x = Checks.province();
        Checks.due("none", x.at(0, 3), 0);
        x.fire(0, 0);
        Checks.due("one, and none elsewhere", new int[] {x.at(0, 3), x.at(1, 3)}, 1, 0);
    }

    static void p05_wearsHardBy10Cut() {
        OneBullet x = new OneBullet();
        int[] hard = {0, 9, 10, 19, 20, 90, 99};
        int[] wears = {0, 0, 1, 1, 2, 9, 9};
        for (int k = 0; k < hard.length; k++) Checks.due("HARD " + hard[k], x.at(x.place(0, hard[k], 0), 4), wears[k]);
    }

    static void p05_flattensHardBy20Cut() {
        OneBullet x = new OneBullet();
        int[] hard = {0, 19, 20, 39, 40, 80, 99};
        int[] flattens = {0, 0, 1, 1, 2, 4, 4};
        for (int k = 0; k < hard.length; k++) Checks.due("HARD " + hard[k], x.at(x.place(0, hard[k], 0), 5), flattens[k]);
    }

    static void p05_worthDentsTimes10() {
        OneBullet x = new OneBullet();
        x.place(0, 0, 0);
        x.person(0, 0);
        Checks.due("without dents", x.at(0, 6), 0);
        x.fire(0, 0);
        Checks.due("one", x.at(0, 6), 10);
        x.fire(0, 0);
        Checks.due("two", x.at(0, 6), 20);
        for (int k = 1; k < 12; k++) x.place(0, 0, 0);
        x.fire(0, 11);
        Checks.due("one of the last, none of another", new int[] {x.at(11, 6), x.at(1, 6)}, 10, 0);
    }

    static void p05_noSuchPlace() {
        OneBullet x = Checks.province();
        for (int what = 0; what < 7; what++) {
            Checks.due("places 3, -1, far", new int[] {x.at(3, what), x.at(-1, what), x.at(HIGH, what), x.at(LOW, what)}, -1, -1, -1, -1);
        }
        Checks.due("is no refusal", x.count(8), 0);
    }

    static void p05_what0To6() {
        OneBullet x = Checks.province();
        Checks.due("7, -1, far", new int[] {x.at(0, 7), x.at(0, -1), x.at(0, HIGH), x.at(0, LOW)}, -1, -1, -1, -1);
    }

    // ---- Promise 6: person. "PEOPLE 0 .. 9 (10 at most): AIM 0 .. 10, a COURT 0 .. 1".

    static void p06_aim0To10() {
        OneBullet x = new OneBullet();
        Checks.due("0, 10", new int[] {x.person(0, 0), x.person(10, 0)}, 0, 1);
        Checks.due("11, -1, far", new int[] {x.person(11, 0), x.person(-1, 0), x.person(HIGH, 0), x.person(LOW, 0)}, -1, -1, -1, -1);
        Checks.due("aims", new int[] {x.of(0, 0), x.of(1, 0), x.count(1)}, 0, 10, 2);
    }

    static void p06_court0To1() {
        OneBullet x = new OneBullet();
        Checks.due("0, 1", new int[] {x.person(3, 0), x.person(3, 1)}, 0, 1);
        Checks.due("2, -1, far", new int[] {x.person(3, 2), x.person(3, -1), x.person(3, HIGH), x.person(3, LOW)}, -1, -1, -1, -1);
        Checks.due("courts", new int[] {x.of(0, 1), x.of(1, 1), x.count(1)}, 0, 1, 2);
    }

    static void p06_tenAtMost() {
        OneBullet x = new OneBullet();
        for (int k = 0; k < 10; k++) Checks.due("person", x.person(k, k % 2), k);
        Checks.due("the 11th", x.person(0, 0), -5);
        Checks.due("ten still", x.count(1), 10);
        for (int k = 0; k < 10; k++) Checks.due("all are as they were", new int[] {x.of(k, 0), x.of(k, 1), x.of(k, 2)}, k, k % 2, 0);
        Checks.due("there is no 10", x.of(10, 0), -1);
    }

    static void p06_wrongAheadOfNoRoom() {
        OneBullet x = new OneBullet();
        for (int k = 0; k < 10; k++) x.person(0, 0);
        Checks.due("-1 comes first", new int[] {x.person(11, 0), x.person(0, 2)}, -1, -1);
        Checks.due("by -1, by -5", new int[] {x.count(7), x.count(10)}, 2, 0);
    }

    // ---- Promise 7: of. "HURT till a DAY (0 at first: not)", "HURT as long as DAY is ahead of that one's".

    static void p07_hurt0AtFirst() {
        OneBullet x = Checks.province();
        Checks.due("till 0, not now", new int[] {x.of(0, 2), x.of(0, 3)}, 0, 0);
    }

    static void p07_hurtAsLongAsDayIsAhead() {
        OneBullet x = Checks.province();
        x.quarrel(2, 0, 0, 0);
        x.terms(0, 10);
        x.duel(0, 0);
        Checks.due("till 17, now", new int[] {x.of(0, 2), x.of(0, 3)}, 17, 1);
        x.terms(0, 16);
        Checks.due("on 16", x.of(0, 3), 1);
        x.terms(0, 17);
        Checks.due("on 17, still told", new int[] {x.of(0, 3), x.of(0, 2)}, 0, 17);
        x.terms(0, 18);
        Checks.due("on 18", x.of(0, 3), 0);
        x.terms(0, 0);
        Checks.due("on 0", x.of(0, 3), 1);
    }

    static void p07_hurtOfEachOne() {
        for (int hit = 0; hit < 9; hit++) {
            OneBullet x = new OneBullet();
            x.place(0, 0, 0);
            for (int k = 0; k < 10; k++) x.person(10, k % 2);
            x.quarrel(9, hit, 0, 0);
            x.terms(0, 3);
            x.duel(0, 0);
            for (int k = 0; k < 10; k++) Checks.due("of " + k, new int[] {x.of(k, 2), x.of(k, 3)}, k == hit ? 10 : 0, k == hit ? 1 : 0);
        }
    }

    static void p07_aimsAt4AndMoreAreOfPlaces() {
        OneBullet x = new OneBullet();
        x.person(7, 0);
        Checks.due("no PLACE", x.of(0, 4), -1);
        for (int k = 0; k < 12; k++) x.place(0, 0, 0);
        for (int k = 0; k < 12; k++) Checks.due("AIM without a LAW", x.of(0, 4 + k), 7);
        Checks.due("behind the last, far", new int[] {x.of(0, 16), x.of(0, HIGH), x.of(0, LOW)}, -1, -1, -1);
    }

    static void p07_aimsAtTheLastPlaceThere() {
        OneBullet x = Checks.province();
        Checks.due("2 is there, 3 is not", new int[] {x.of(0, 6), x.of(0, 7)}, 5, -1);
    }

    static void p07_noSuchPersonOrWhat() {
        OneBullet x = Checks.province();
        for (int what = 0; what < 5; what++) {
            Checks.due("people 3, -1, far", new int[] {x.of(3, what), x.of(-1, what), x.of(HIGH, what), x.of(LOW, what)}, -1, -1, -1, -1);
        }
        Checks.due("what -1", x.of(0, -1), -1);
        Checks.due("is no refusal", x.count(8), 0);
    }

    // ---- Promise 8: quarrel. "QUARRELS 0 .. 6 (7 at most): of two unlike PEOPLE at a PLACE, DUE by a DAY 0 .. 999".

    static void p08_due0To999() {
        OneBullet x = Checks.province();
        Checks.due("0, 999", new int[] {x.quarrel(0, 1, 0, 0), x.quarrel(0, 1, 0, 999)}, 0, 1);
        Checks.due("1000, -1, far",
            new int[] {x.quarrel(0, 1, 0, 1000), x.quarrel(0, 1, 0, -1), x.quarrel(0, 1, 0, HIGH), x.quarrel(0, 1, 0, LOW)}, -1, -1, -1, -1);
        Checks.due("due", new int[] {x.about(0, 3), x.about(1, 3), x.count(2)}, 0, 999, 2);
    }

    static void p08_ofTwoUnlikePeople() {
        OneBullet x = Checks.province();
        Checks.due("alike", new int[] {x.quarrel(0, 0, 0, 0), x.quarrel(2, 2, 0, 0)}, -1, -1);
        Checks.due("alike and not there", new int[] {x.quarrel(3, 3, 0, 0), x.quarrel(-1, -1, 0, 0)}, -1, -1);
        Checks.due("unlike", new int[] {x.quarrel(0, 2, 0, 0), x.quarrel(2, 0, 0, 0)}, 0, 1);
    }

    static void p08_noSuchPersonOrPlace() {
        OneBullet x = Checks.province();
        Checks.due("the last that are there", x.quarrel(2, 1, 2, 0), 0);
        Checks.due("first", new int[] {x.quarrel(3, 1, 0, 0), x.quarrel(-1, 1, 0, 0), x.quarrel(HIGH, 1, 0, 0), x.quarrel(LOW, 1, 0, 0)}, -2, -2, -2, -2);
        Checks.due("second", new int[] {x.quarrel(1, 3, 0, 0), x.quarrel(1, -1, 0, 0), x.quarrel(1, HIGH, 0, 0), x.quarrel(1, LOW, 0, 0)}, -2, -2, -2, -2);
        Checks.due("place", new int[] {x.quarrel(0, 1, 3, 0), x.quarrel(0, 1, -1, 0), x.quarrel(0, 1, HIGH, 0), x.quarrel(0, 1, LOW, 0)}, -2, -2, -2, -2);
        Checks.due("one still", x.count(2), 1);
    }

    static void p08_sevenAtMost() {
        OneBullet x = Checks.province();
        for (int k = 0; k < 7; k++) Checks.due("quarrel", x.quarrel(k % 2, 2, k % 3, 10 + k), k);
        Checks.due("the 8th", x.quarrel(0, 1, 0, 0), -5);
        Checks.due("seven still", x.count(2), 7);
        for (int k = 0; k < 7; k++) {
            Checks.due("all are as they were", new int[] {x.about(k, 0), x.about(k, 1), x.about(k, 2), x.about(k, 3)}, k % 2, 2, k % 3, 10 + k);
        }
        Checks.due("there is no 7", x.about(7, 0), -1);
    }

    static void p08_theFirstRefusalInTheirOrder() {
        OneBullet x = Checks.province();
        Checks.due("-1 ahead of -2", new int[] {x.quarrel(0, 3, 0, 1000), x.quarrel(0, 1, 3, -1), x.quarrel(1, 1, 3, 0)}, -1, -1, -1);
        for (int k = 0; k < 7; k++) x.quarrel(0, 1, 0, 0);
        Checks.due("-1 ahead of -5", new int[] {x.quarrel(0, 1, 0, 1000), x.quarrel(0, 0, 0, 0)}, -1, -1);
        Checks.due("-2 ahead of -5", new int[] {x.quarrel(0, 3, 0, 0), x.quarrel(0, 1, 3, 0)}, -2, -2);
        Checks.due("by -1, -2, -5", new int[] {x.count(7), x.count(8), x.count(10)}, 5, 2, 0);
    }

    // ---- Promise 9: about. "whether it can be had now": neither HURT, neither BARRED, the bullet CAN be FIRED.

    static void p09_notWhenEitherIsHurt() {
        OneBullet x = Checks.province();
        x.person(0, 0);
        x.quarrel(2, 0, 0, 0);
        x.quarrel(0, 1, 0, 0);
        x.quarrel(1, 0, 0, 0);
        x.quarrel(1, 3, 0, 0);
        x.duel(0, 0);
        Checks.due("the first, the second, neither", new int[] {x.about(0, 4), x.about(1, 4), x.about(2, 4)}, 0, 0, 1);
        x.rest(6);
        Checks.due("a day ahead", new int[] {x.about(0, 4), x.about(1, 4)}, 0, 0);
        x.rest(1);
        Checks.due("well", new int[] {x.about(0, 4), x.about(1, 4)}, 1, 1);
    }

    static void p09_notWhenEitherIsBarredAtItsPlace() {
        OneBullet x = Checks.under("bars if person = 1 and place = 0");
        x.quarrel(1, 0, 0, 0);
        x.quarrel(0, 1, 0, 0);
        x.quarrel(0, 1, 1, 0);
        x.quarrel(0, 2, 0, 0);
        Checks.due("the first, the second, elsewhere, others",
            new int[] {x.about(0, 4), x.about(1, 4), x.about(2, 4), x.about(3, 4)}, 0, 0, 1, 1);
    }

    static void p09_notWhenItCanNotBeFired() {
        OneBullet x = Checks.province();
        x.quarrel(0, 1, 0, 0);
        x.put(0, 20);
        Checks.due("LEAST", x.about(0, 4), 1);
        x.put(0, 19);
        Checks.due("too light", x.about(0, 4), 0);
        x.put(0, 100);
        x.fire(0, 2);
        Checks.due("lost", x.about(0, 4), 0);
    }

    static void p09_beingLateDoesNotMatter() {
        OneBullet x = Checks.province();
        x.quarrel(0, 1, 0, 5);
        x.terms(0, 999);
        Checks.due("behind its DUE", x.about(0, 4), 1);
    }

    static void p09_noSuchQuarrelOrWhat() {
        OneBullet x = Checks.province();
        x.quarrel(0, 1, 2, 5);
        for (int what = 0; what < 5; what++) {
            Checks.due("1, -1, far", new int[] {x.about(1, what), x.about(-1, what), x.about(HIGH, what), x.about(LOW, what)}, -1, -1, -1, -1);
        }
        Checks.due("what 5, -1, far", new int[] {x.about(0, 5), x.about(0, -1), x.about(0, HIGH), x.about(0, LOW)}, -1, -1, -1, -1);
        Checks.due("is no refusal", new int[] {x.count(7), x.count(8)}, 0, 0);
    }

    // ---- Promise 10: terms.

    private static void term(int what, int first, int least, int most) {
        OneBullet x = new OneBullet();
        Checks.due("most, it was the first", x.terms(what, most), first);
        Checks.due("beyond", new int[] {x.terms(what, most + 1), x.terms(what, HIGH)}, -1, -1);
        Checks.due("most still", x.count(13 + what), most);
        Checks.due("least, it was the most", x.terms(what, least), most);
        Checks.due("below", new int[] {x.terms(what, least - 1), x.terms(what, LOW)}, -1, -1);
        Checks.due("least still", x.count(13 + what), least);
        for (int k = 0; k < 5; k++) {
            if (k != what) Checks.due("another", x.count(13 + k), new OneBullet().count(13 + k));
        }
    }

    static void p10_day0To999() {
        term(0, 0, 0, 999);
    }

    static void p10_rounds1To4() {
        term(1, 2, 1, 4);
    }

    static void p10_least1To99() {
        term(2, 20, 1, 99);
    }

    static void p10_spades1To9() {
        term(3, 1, 1, 9);
    }

    static void p10_mood0To9() {
        term(4, 0, 0, 9);
    }

    static void p10_what0To4() {
        OneBullet x = new OneBullet();
        Checks.due("5, -1, far", new int[] {x.terms(5, 1), x.terms(-1, 1), x.terms(HIGH, 1), x.terms(LOW, 1)}, -1, -1, -1, -1);
        Checks.due("by -1", x.count(7), 4);
    }

    // ---- Promise 11: feed. "NONE, if there would be more than 400."

    static void p11_400BytesAtMost() {
        OneBullet x = new OneBullet();
        for (int k = 1; k < 21; k++) Checks.due("feed", x.feed(0, 0, 0, 0, 0), 20 * k);
        Checks.due("more", x.feed(0, 0, 0, 0, 0), -1);
        Checks.due("400 still, no refusal", new int[] {x.count(6), x.status(), x.count(10)}, 400, 0, 0);
    }

    static void p11_exactly400Or1More() {
        OneBullet x = new OneBullet();
        for (int k = 0; k < 20; k++) x.feed(0, 0, 0, 0, 0);
        x.end(380);
        Checks.due("380 and 20", x.feed(0, 0, 0, 0, 0), 400);
        x.end(381);
        Checks.due("381 and 20", x.feed(0, 0, 0, 0, 0), -1);
        Checks.due("381 still", x.count(6), 381);
    }

    static void p11_fourOfEachNumberTheHighestFirst() {
        OneBullet x = new OneBullet();
        // KIND, HARD, DEEP: 1 2 3, 0 5 6, 3 8 9, 2 11 12, 1 14 15, 0 17 18; 0 20 is torn.
        x.feed(0x01020300, 0x05060308, 0x09020B0C, 0x010E0F00, 0x11120014);
        Checks.due("places", x.row(), 6);
        int[] kinds = {1, 0, 3, 2, 1, 0};
        for (int k = 0; k < 6; k++) {
            Checks.due("place " + k, new int[] {x.at(k, 0), x.at(k, 1), x.at(k, 2)}, kinds[k], 2 + 3 * k, 3 + 3 * k);
        }
    }

    static void p11_aNumberBelow0HasHighBytes() {
        OneBullet x = new OneBullet();
        // 255 255 255, 255 0 0 ..: a KIND of 255 can't be, none is taken for -1 or less.
        x.feed(-1, 0x00000080, 0x00000000, 0x00000000, 0x00000000);
        x.end(8);
        // 255 255 255 | 255 0 0 | 0 128
        Checks.due("no place, three chips", new int[] {x.row(), x.chips()}, 0, 3);
        x.feed(0x80000000, 0x80000080, 0, 0, 0);
        // 128 0 0 | 0 128 0 | 0 128 ..
        x.end(6);
        Checks.due("no place, two chips", new int[] {x.row(), x.chips()}, 0, 2);
    }

    static void p11_comesBehindTheTape() {
        OneBullet x = new OneBullet();
        x.feed(0x01020300, 0x04050000, 0, 0, 0);
        x.end(6);
        x.feed(0x03060700, 0, 0, 0, 0);
        x.end(9);
        Checks.due("places", x.row(), 3);
        Checks.due("the third", new int[] {x.at(2, 0), x.at(2, 1), x.at(2, 2)}, 3, 6, 7);
    }

    // ---- Promise 12: end. "NONE, if it has not so many, or n is below 0."

    static void p12_notMoreThanItHas() {
        OneBullet x = new OneBullet();
        Checks.due("0 of none, 1 of none", new int[] {x.end(0), x.end(1)}, 0, -1);
        x.feed(0, 0, 0, 0, 0);
        Checks.due("21, far", new int[] {x.end(21), x.end(HIGH)}, -1, -1);
        Checks.due("20 still", x.count(6), 20);
        Checks.due("20, 19", new int[] {x.end(20), x.end(19), x.count(6)}, 20, 19, 19);
        Checks.due("20 of 19", x.end(20), -1);
        Checks.due("19 still", x.count(6), 19);
    }

    static void p12_notBelow0() {
        OneBullet x = new OneBullet();
        x.feed(0, 0, 0, 0, 0);
        Checks.due("-1, far", new int[] {x.end(-1), x.end(LOW), x.count(6)}, -1, -1, 20);
        Checks.due("0", new int[] {x.end(0), x.count(6)}, 0, 0);
        Checks.due("is no refusal", x.count(7), 0);
    }

    // ---- Promise 13: row. Terms IV: "KIND, HARD, DEEP: a PLACE; one that can't be .. is CHIPS: none."

    private static void rowOf(String bytes, int came, int chips) {
        OneBullet x = new OneBullet();
        Checks.tape(x, bytes);
        StringBuilder told = new StringBuilder();
        for (char c : bytes.toCharArray()) told.append((int) c).append(' ');
        Checks.due("row of " + told, x.row(), came);
        Checks.due("chips of " + told, x.chips(), chips);
        Checks.due("places of " + told, x.count(0), came);
        Checks.due("tape behind " + told, x.count(6), 0);
    }

    static void p13_anEmptyTapeIsRefused() {
        OneBullet x = new OneBullet();
        Checks.due("-6", new int[] {x.row(), x.status(), x.count(11)}, -6, -6, 1);
        Checks.due("one more", new int[] {x.row(), x.count(11)}, -6, 2);
    }

    static void p13_kindHardDeepThatCanBe() {
        rowOf("\3\143\24", 1, 0);
        rowOf("\0\0\0", 1, 0);
        rowOf("\4\0\0", 0, 1);
        rowOf("\0\144\0", 0, 1);
        rowOf("\0\0\25", 0, 1);
        rowOf("\377\0\0", 0, 1);
        rowOf("\0\377\0", 0, 1);
        rowOf("\0\0\377", 0, 1);
    }

    static void p13_oneWithinWhichTheTapeEnds() {
        rowOf("\1", 0, 1);
        rowOf("\1\1", 0, 1);
        rowOf("\1\1\1\1", 1, 1);
        rowOf("\1\1\1\1\1", 1, 1);
        rowOf("\1\1\1\1\1\1", 2, 0);
    }

    static void p13_oneForWhichThereIsNoRoom() {
        rowOf(Checks.times("\1\1\1", 12), 12, 0);
        rowOf(Checks.times("\1\1\1", 13), 12, 1);
        OneBullet x = new OneBullet();
        for (int k = 0; k < 11; k++) x.place(0, 0, 0);
        Checks.tape(x, "\3\5\6\2\7\7");
        Checks.due("one came, one did not", new int[] {x.row(), x.chips(), x.count(0)}, 1, 1, 12);
        Checks.due("the first of them", new int[] {x.at(11, 0), x.at(11, 1), x.at(11, 2)}, 3, 5, 6);
        Checks.tape(x, "\3\5\6");
        Checks.due("none came, not refused", new int[] {x.row(), x.status(), x.count(10)}, 0, 0, 0);
    }

    static void p13_chipsTakeNoRoom() {
        rowOf(Checks.times("\4\1\1", 13) + Checks.times("\1\1\1", 12), 12, 13);
    }

    static void p13_aFullTape() {
        rowOf(Checks.times("\1\2", 200), 12, 122);
    }

    static void p13_placesComeBehindThoseThatAreThere() {
        OneBullet x = Checks.province();
        Checks.tape(x, "\3\5\6");
        Checks.due("one came, as 3", new int[] {x.row(), x.at(3, 0), x.at(3, 1), x.at(3, 2), x.at(3, 3)}, 1, 3, 5, 6, 0);
        Checks.due("those are as they were", new int[] {x.at(0, 1), x.at(2, 2)}, 60, 7);
    }

    // ---- Promise 14: chips. "the latest row() that was not REFUSED (0 ahead of any)."

    static void p14_0AheadOfAny() {
        OneBullet x = new OneBullet();
        Checks.due("0", x.chips(), 0);
        x.row();
        Checks.due("0 behind a refused one", x.chips(), 0);
    }

    static void p14_aRefusedOneDoesNotCount() {
        OneBullet x = new OneBullet();
        Checks.tape(x, "\4\4\4\4");
        x.row();
        Checks.due("two", x.chips(), 2);
        x.row();
        Checks.due("two still", x.chips(), 2);
        Checks.tape(x, "\1\1\1");
        x.row();
        Checks.due("none", x.chips(), 0);
    }

    public static void main(String[] args) throws Exception {
        Checks.runAll(StateEdgeTest.class, 1, 2, 3, 4, 5, 6, 7, 8, 9, 10, 11, 12, 13, 14);
    }
}
