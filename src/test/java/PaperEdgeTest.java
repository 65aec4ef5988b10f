/** Edges of what is reckoned on paper: odds, rows, marks, games, shares, seasons (promises 26 to 34, Terms III, IV). */
public final class PaperEdgeTest {
    private static final int LOW = Integer.MIN_VALUE;
    private static final int HIGH = Integer.MAX_VALUE;
    private static final int ALL = 100000000;

    /** One PLACE, two PEOPLE with those AIMS, one QUARREL of them. */
    private static OneBullet pair(int kind, int hard, int deep, int aim, int other, int due) {
        OneBullet x = new OneBullet();
        x.place(kind, hard, deep);
        x.person(aim, 0);
        x.person(other, 1);
        x.quarrel(0, 1, 0, due);
        return x;
    }

    private static void odds(String what, OneBullet x, int... ends) {
        Checks.due(what, new int[] {x.odds(0, 0), x.odds(0, 1), x.odds(0, 2), x.odds(0, 3)}, ends);
    }

    // ---- Promise 26: odds. "(what 0 .. 3). NONE."

    static void p26_what0To3() {
        OneBullet x = pair(0, 0, 0, 5, 5, 0);
        Checks.due("4, -1, far", new int[] {x.odds(0, 4), x.odds(0, -1), x.odds(0, HIGH), x.odds(0, LOW)}, -1, -1, -1, -1);
        Checks.due("is no refusal", x.count(7), 0);
    }

    static void p26_noSuchQuarrel() {
        OneBullet x = pair(0, 0, 0, 5, 5, 0);
        Checks.due("1, -1, far", new int[] {x.odds(1, 0), x.odds(-1, 0), x.odds(HIGH, 0), x.odds(LOW, 0)}, -1, -1, -1, -1);
        x.duel(0, 0);
        Checks.due("it is gone", x.odds(0, 0), -1);
    }

    static void p26_ofAims0And10() {
        odds("0, 0", pair(0, 0, 0, 0, 0, 0), ALL, 0, 0, 0);
        odds("10, 10", pair(0, 0, 0, 10, 10, 0), 0, ALL, 0, 0);
        odds("0, 10", pair(0, 0, 0, 0, 10, 0), 0, 0, ALL, 0);
        odds("9, 10", pair(0, 0, 0, 9, 10, 0), 0, 90000000, 10000000, 0);
    }

    static void p26_rounds1And4() {
        OneBullet x = pair(0, 0, 0, 1, 1, 0);
        x.terms(1, 1);
        odds("1", x, 81000000, 10000000, 9000000, 0);
        x.terms(1, 4);
        // 9^8; 9^0 + 9^2 + .. by 10^7, 10^5 ..; 9^1 + ..: all of it to the last one of 100,000,000.
        odds("4", x, 43046721, 10000000 + 8100000 + 6561000 + 5314410, 9000000 + 7290000 + 5904900 + 4782969, 0);
    }

    static void p26_tooLightAheadOfTheLastShot() {
        OneBullet x = pair(0, 10, 0, 5, 5, 0);
        x.put(0, 23);
        odds("the fourth is fired at 20", x, 6250000, 62500000, 31250000, 0);
        x.put(0, 22);
        odds("the fourth can't be", x, 0, 62500000, 25000000, 12500000);
        x.put(0, 20);
        odds("the second can't be", x, 0, 50000000, 0, 50000000);
        x.put(0, 23);
        odds("the fourth is fired at 20 again", x, 6250000, 62500000, 31250000, 0);
    }

    static void p26_ofThatQuarrel() {
        OneBullet x = Checks.province();
        x.quarrel(2, 0, 0, 0);
        x.quarrel(1, 0, 1, 0);
        x.quarrel(1, 0, 2, 0);
        x.quarrel(0, 1, 2, 0);
        Checks.due("0: the second one is hit", x.odds(0, 1), ALL);
        Checks.due("1: the first one is hit, or nobody", new int[] {x.odds(1, 0), x.odds(1, 2), x.odds(1, 3)}, 25000000, 75000000, 0);
        Checks.due("2: it goes into the lake", x.odds(2, 3), ALL);
        Checks.due("3: the second one is hit, or it goes into the lake", new int[] {x.odds(3, 1), x.odds(3, 3)}, 50000000, 50000000);
    }

    static void p26_ofABulletThatCanNotBeFired() {
        OneBullet x = pair(2, 0, 0, 5, 5, 0);
        x.put(0, 19);
        odds("too light", x, 0, 0, 0, ALL);
        x.put(0, 20);
        odds("LEAST, at a lake", x, 0, 50000000, 0, 50000000);
        x.fire(0, 0);
        odds("lost", x, 0, 0, 0, ALL);
    }

    static void p26_hurtAndBarsAside() {
        OneBullet x = Checks.under("bars");
        x.quarrel(2, 0, 0, 0);
        x.quarrel(1, 0, 0, 0);
        Checks.due("barred", x.odds(1, 2), 75000000);
        x.force(-1);
        x.duel(0, 0);
        Checks.due("hurt", new int[] {x.about(0, 4), x.odds(0, 2)}, 0, 75000000);
    }

    static void p26_lawsAskedAsAllIsThen() {
        // The first shot leaves a dent, 5 DAYS of RUST, 98, FLAT 1: then all hit.
        for (String test : new String[] {"dents = 1", "day = 5", "rust = 5", "weight = 98", "flat = 1"}) {
            OneBullet x = Checks.under("aims 0; aims 10 if " + test);
            x.quarrel(0, 1, 1, 0);
            odds(test, x, 0, 0, ALL, 0);
        }
    }

    static void p26_onPaper() {
        OneBullet x = pair(2, 50, 7, 3, 3, 0);
        int[] before = Checks.picture(x);
        x.odds(0, 3);
        Checks.same("odds", x, before);
    }

    // ---- Promise 27: queue. "each begins if it CAN be FIRED, ends no later than DUE, is not broken off (END 3, a lake, too)".

    static void p27_endsNoLaterThanDue() {
        // Four shots of 5 DAYS.
        Checks.due("on 20", pair(3, 0, 5, 0, 0, 20).queue(0), 1);
        Checks.due("on 19", pair(3, 0, 5, 0, 0, 19).queue(0), 0);
        OneBullet x = pair(3, 0, 5, 0, 0, 20);
        x.terms(0, 1);
        Checks.due("a day later", x.queue(0), 0);
        x.terms(0, 0);
        x.terms(3, 9);
        x.terms(0, 16);
        Checks.due("four DAYS by 9 SPADES", x.queue(0), 1);
        x.terms(0, 17);
        Checks.due("a day later", x.queue(0), 0);
    }

    static void p27_day999IsTheLast() {
        OneBullet x = pair(3, 0, 5, 0, 0, 999);
        x.terms(0, 999);
        Checks.due("no later than 999", x.queue(0), 1);
        x = pair(3, 0, 5, 0, 0, 998);
        x.terms(0, 978);
        Checks.due("just 998", x.queue(0), 1);
        x.terms(0, 979);
        Checks.due("999", x.queue(0), 0);
    }

    static void p27_due0() {
        Checks.due("no DAY is needed", pair(3, 0, 0, 0, 0, 0).queue(0), 1);
        Checks.due("four are", pair(3, 0, 1, 0, 0, 0).queue(0), 0);
    }

    static void p27_notBrokenOff() {
        OneBullet x = pair(0, 10, 0, 0, 0, 999);
        x.put(0, 23);
        Checks.due("the last shot at LEAST", new int[] {x.queue(0), x.queue(21)}, 1, 19);
        x.put(0, 22);
        Checks.due("too light ahead of it", new int[] {x.queue(0), x.queue(1), x.queue(11), x.queue(21)}, 0, -1, -1, -1);
    }

    static void p27_eachBeginsIfItCanBeFired() {
        OneBullet x = pair(0, 10, 0, 0, 0, 999);
        x.quarrel(0, 1, 0, 999);
        x.put(0, 27);
        Checks.due("the second one's last shot at LEAST", x.queue(0), 2);
        x.put(0, 23);
        Checks.due("the second one can't begin", x.queue(0), 0);
        x.put(0, 19);
        Checks.due("none can", x.queue(0), 0);
        OneBullet y = pair(2, 0, 0, 0, 0, 999);
        y.place(0, 0, 0);
        y.fire(0, 0);
        Checks.due("lost", y.queue(0), 0);
    }

    static void p27_aLakeToo() {
        for (int rounds = 1; rounds < 5; rounds++) {
            OneBullet x = pair(2, 0, 0, 0, 0, 999);
            x.terms(1, rounds);
            Checks.due("ROUNDS " + rounds, x.queue(0), 0);
        }
    }

    static void p27_byAllShotsMissed() {
        // By AIM 10 it would be had without a DAY: all are missed on paper.
        Checks.due("20 DAYS", pair(3, 0, 5, 10, 10, 19).queue(0), 0);
    }

    static void p27_hurtAndBarsAreNotAsked() {
        OneBullet x = Checks.under("bars");
        x.quarrel(2, 0, 0, 999);
        x.quarrel(1, 0, 0, 999);
        Checks.due("barred", x.queue(0), 2);
        x.force(-1);
        x.duel(0, 0);
        Checks.due("hurt", new int[] {x.about(0, 4), x.queue(0)}, 0, 1);
    }

    static void p27_withoutQuarrels() {
        OneBullet x = new OneBullet();
        Checks.due("one row of none, all is left", new int[] {x.queue(0), x.queue(1), x.queue(11), x.queue(21)}, 1, -1, -1, 100);
    }

    static void p27_sevenQuarrels() {
        OneBullet x = pair(0, 0, 0, 0, 0, 0);
        for (int k = 1; k < 7; k++) x.quarrel(0, 1, 0, 0);
        Checks.due("7!", x.queue(0), 5040);
        for (int k = 0; k < 7; k++) Checks.due("both rows", new int[] {x.queue(1 + k), x.queue(11 + k)}, k, k);
        Checks.due("none behind them", new int[] {x.queue(8), x.queue(18)}, -1, -1);
        Checks.due("weight", x.queue(21), 100);
    }

    static void p27_whatThereIs() {
        OneBullet x = pair(0, 0, 0, 0, 0, 0);
        x.quarrel(1, 0, 0, 0);
        Checks.due("two of each", new int[] {x.queue(1), x.queue(2), x.queue(11), x.queue(12)}, 0, 1, 0, 1);
        for (int what : new int[] {-1, 3, 7, 8, 9, 10, 13, 17, 18, 20, 22, HIGH, LOW}) Checks.due("what " + what, x.queue(what), -1);
    }

    static void p27_theFirstAndTheBest() {
        // The first leaves RUST 10, by which the second wears 9 a shot instead of 1.
        OneBullet x = Checks.under("wears 1 if place = 1; wears 9 if place = 1 and rust > 9");
        x.terms(1, 1);
        x.terms(3, 1);
        x.place(0, 60, 5);
        x.quarrel(0, 1, 3, 999);
        x.quarrel(0, 1, 1, 999);
        Checks.due("rows, the first, the best", new int[] {x.queue(0), x.queue(1), x.queue(2), x.queue(11), x.queue(12)}, 2, 0, 1, 1, 0);
        // 1 and 1 (RUST 5 then), and twice 6.
        Checks.due("weight", x.queue(21), 86);
    }

    static void p27_ofEqualOnesTheFirst() {
        OneBullet x = Checks.province();
        x.terms(1, 1);
        for (int k = 0; k < 3; k++) x.quarrel(0, 1, k == 1 ? 1 : 0, 999);
        Checks.due("0, 1, 2", new int[] {x.queue(11), x.queue(12), x.queue(13), x.queue(21)}, 0, 1, 2, 72);
    }

    static void p27_lawsAskedAsAllIsThen() {
        // 3 and 5 DAYS a shot, two shots: the wall first leaves RUST 6, the wood first RUST 10. A third one wears by it.
        OneBullet x = Checks.under("wears 0; wears rust if place = 3");
        x.terms(1, 1);
        x.place(3, 0, 0);
        x.quarrel(0, 1, 0, 999);
        x.quarrel(0, 1, 1, 999);
        x.quarrel(0, 1, 3, 999);
        // Its second shot, and what comes behind it, must be fired at 20 or more: behind the wood alone twice 10 are worn,
        // behind both 16 by the first shot, behind the wall alone twice 6, nothing ahead of both.
        int[][] rows = {{40, 6}, {39, 5}, {36, 5}, {35, 3}, {32, 3}, {31, 2}, {20, 2}, {19, 0}};
        for (int[] row : rows) {
            x.put(0, row[0]);
            Checks.due("rows from " + row[0], x.queue(0), row[1]);
        }
        x.put(0, 35);
        Checks.due("the first", new int[] {x.queue(1), x.queue(2), x.queue(3)}, 0, 2, 1);
        Checks.due("the best", new int[] {x.queue(11), x.queue(12), x.queue(13), x.queue(21)}, 2, 0, 1, 35);
    }

    static void p27_theSameQuarrelsInAnotherOrder() {
        // Which of 0 and 1 was had first sets FLAT: by FLAT 1 the last one wears twice 40, and can't be had.
        OneBullet x = Checks.under("wears 1; flattens 0; wears 40 if place = 3 and flat = 1; flattens 1 if place = 0 and flat = 0; flattens 2 if place = 1 and flat = 0");
        x.terms(1, 1);
        x.place(3, 0, 0);
        x.quarrel(0, 1, 0, 999);
        x.quarrel(0, 1, 1, 999);
        x.quarrel(0, 1, 3, 999);
        x.put(0, 59);
        // 0 1 2, 0 2 1: FLAT 1. 1 0 2, 1 2 0: FLAT 2. 2 0 1, 2 1 0: FLAT 0.
        Checks.due("four", new int[] {x.queue(0), x.queue(1), x.queue(2), x.queue(3), x.queue(11), x.queue(21)}, 4, 1, 0, 2, 1, 53);
    }

    static void p27_theSameQuarrelsTheOtherWayRound() {
        // As above, but FLAT 1 comes of the later order.
        OneBullet x = Checks.under("wears 1; flattens 0; wears 40 if place = 3 and flat = 1; flattens 2 if place = 0 and flat = 0; flattens 1 if place = 1 and flat = 0");
        x.terms(1, 1);
        x.place(3, 0, 0);
        x.quarrel(0, 1, 0, 999);
        x.quarrel(0, 1, 1, 999);
        x.quarrel(0, 1, 3, 999);
        x.put(0, 59);
        // 0 1 2, 0 2 1: FLAT 2. 1 0 2, 1 2 0: FLAT 1. 2 0 1, 2 1 0: FLAT 0.
        Checks.due("four", new int[] {x.queue(0), x.queue(1), x.queue(2), x.queue(3), x.queue(11), x.queue(21)}, 4, 0, 1, 2, 0, 53);
    }

    static void p27_theFirstIsNotTheBest() {
        // FLAT by 2 is how many were had ahead. What a shot wears, by the place and by that: 0: 1 2 0; 1: 0 3 1; 3: 2 0 3.
        OneBullet x = Checks.under("flattens 1; wears 0; wears 1 if place*10+flat/2=0; wears 2 if place*10+flat/2=1; wears 3 if place*10+flat/2=11;"
            + "wears 1 if place*10+flat/2=12; wears 2 if place*10+flat/2=30; wears 3 if place*10+flat/2=32");
        x.terms(1, 1);
        x.place(3, 0, 0);
        x.quarrel(0, 1, 0, 999);
        x.quarrel(0, 1, 1, 999);
        x.quarrel(0, 1, 3, 999);
        // Twice 7, 2, 5, 0, 5, 5 by 0 1 2, 0 2 1, 1 0 2, 1 2 0, 2 0 1, 2 1 0.
        Checks.due("the first", new int[] {x.queue(0), x.queue(1), x.queue(2), x.queue(3)}, 6, 0, 1, 2);
        Checks.due("the best", new int[] {x.queue(11), x.queue(12), x.queue(13), x.queue(21)}, 1, 2, 0, 100);
        x.quarrel(1, 0, 0, 999);
        // A fourth one wears nothing if it is the last: 1 2 0 3, and 1 2 3 0, by which 0 is the last and 3 the third.
        Checks.due("of four", new int[] {x.queue(0), x.queue(1), x.queue(4), x.queue(11), x.queue(12), x.queue(13), x.queue(14), x.queue(21)},
            24, 0, 3, 1, 2, 0, 3, 100);
    }

    static void p27_onPaper() {
        OneBullet x = pair(1, 50, 5, 3, 3, 999);
        int[] before = Checks.picture(x);
        x.queue(0);
        x.spades();
        Checks.same("queue", x, before);
    }

    static void p27_askedAgainWhenSomethingHappened() {
        OneBullet x = pair(3, 10, 5, 0, 0, 20);
        Checks.due("one", x.queue(0), 1);
        x.spades();
        Checks.due("behind spades()", new int[] {x.queue(0), x.queue(21)}, 1, 96);
        x.marks(1, 99, 0, -1);
        Checks.due("behind marks()", new int[] {x.queue(0), x.queue(1), x.queue(21)}, 1, 0, 96);
        x.marks(1, 98, 0, -1);
        Checks.due("behind marks() without rows", new int[] {x.queue(0), x.queue(1), x.queue(21)}, 1, 0, 96);
        x.rest(1);
        Checks.due("behind rest()", x.queue(0), 0);
        x.undo();
        Checks.due("behind undo()", x.queue(0), 1);
        x.image(0);
        x.terms(1, 4);
        Checks.due("behind terms()", x.queue(0), 0);
        x.back(0);
        Checks.due("behind back()", x.queue(0), 1);
        Checks.law(x, "wears 99");
        x.force(0);
        Checks.due("behind force()", x.queue(0), 0);
        x.force(-1);
        x.put(0, 22);
        Checks.due("behind put()", x.queue(0), 0);
        x.put(0, 100);
        x.fire(0, 0);
        Checks.due("behind fire()", x.queue(0), 0);
        x.terms(0, 0);
        x.quarrel(0, 1, 0, 999);
        Checks.due("behind quarrel()", new int[] {x.queue(0), x.queue(1), x.queue(2)}, 1, 0, 1);
        x.duel(0, 0);
        Checks.due("behind duel()", new int[] {x.queue(0), x.queue(1), x.queue(2)}, 1, 0, -1);
        Checks.orders(x, "rest 99 times 10");
        Checks.due("behind orders()", x.queue(0), 1);
        x.terms(0, 0);
        x.place(0, 0, 0);
        x.person(0, 0);
        Checks.due("behind place(), person()", x.queue(0), 1);
    }

    static void p27_severalRowsBehindSpades() {
        OneBullet x = pair(3, 10, 0, 0, 0, 20);
        x.quarrel(1, 0, 0, 20);
        x.spades();
        Checks.due("two", new int[] {x.queue(0), x.queue(21)}, 2, 92);
        x.spades();
        Checks.due("two still", new int[] {x.queue(0), x.queue(21)}, 2, 92);
    }

    // ---- Promise 28: spades. "The fewest SPADES. NONE (not by 9)."

    static void p28_1To9() {
        // Two shots, 9 deep: 18, 10, 6, 6, 4, 4, 4, 4, 2 DAYS by 1 .. 9.
        int[][] rows = {{999, 1}, {18, 1}, {17, 2}, {10, 2}, {9, 3}, {6, 3}, {5, 5}, {4, 5}, {3, 9}, {2, 9}, {1, -1}, {0, -1}};
        for (int[] row : rows) {
            OneBullet x = pair(3, 0, 9, 0, 0, row[0]);
            x.terms(1, 1);
            Checks.due("DUE " + row[0], x.spades(), row[1]);
        }
    }

    static void p28_notBy10() {
        // Two shots, 20 deep: 6 DAYS by 7, 8, 9, and 4 by 10.
        int[][] rows = {{6, 7}, {5, -1}, {4, -1}};
        for (int[] row : rows) {
            OneBullet x = pair(3, 0, 20, 0, 0, row[0]);
            x.terms(1, 1);
            Checks.due("DUE " + row[0], x.spades(), row[1]);
        }
    }

    static void p28_whateverSpadesThereAre() {
        OneBullet x = pair(3, 0, 9, 0, 0, 17);
        x.terms(1, 1);
        x.terms(3, 9);
        Checks.due("two", x.spades(), 2);
        Checks.due("nine are there still", x.count(16), 9);
        x.terms(3, 1);
        Checks.due("two", x.spades(), 2);
    }

    static void p28_withoutQuarrels() {
        Checks.due("one", new OneBullet().spades(), 1);
    }

    static void p28_whenNoRowCanBeHadAtAll() {
        OneBullet x = pair(2, 0, 0, 0, 0, 999);
        Checks.due("a lake", x.spades(), -1);
        x = pair(0, 0, 0, 0, 0, 999);
        x.put(0, 19);
        Checks.due("too light", x.spades(), -1);
        x.put(0, 20);
        Checks.due("LEAST", x.spades(), 1);
        x.place(2, 0, 0);
        x.fire(0, 1);
        Checks.due("lost", x.spades(), -1);
        Checks.due("is no refusal", x.status(), 0);
    }

    static void p28_someRowIsEnough() {
        // 4 DAYS each by one spade; only in one of the two orders.
        OneBullet x = pair(3, 0, 2, 0, 0, 8);
        x.terms(1, 1);
        x.quarrel(0, 1, 0, 4);
        Checks.due("the second first", x.spades(), 1);
        x.quarrel(0, 1, 0, 8);
        Checks.due("three can't by one", x.spades(), 2);
    }

    static void p28_moreSpadesMayNotHelp() {
        // By one spade RUST is 9 ahead of the second shot, and it wears 0 then; by nine it wears 99.
        OneBullet x = Checks.under("wears 99 if rust < 9; wears 0 if rust > 8");
        x.place(3, 0, 9);
        x.put(0, 119);
        x.terms(2, 20);
        x.quarrel(0, 1, 3, 999);
        Checks.due("by one", x.spades(), 1);
        x.terms(2, 21);
        Checks.due("by none", x.spades(), -1);
    }

    // ---- Promise 29: free.

    static void p29_none() {
        OneBullet x = Checks.province();
        Checks.due("0, no bits", new int[] {x.free(0), x.free(1)}, 0, 0);
    }

    static void p29_what0To1() {
        OneBullet x = pair(0, 0, 0, 0, 0, 0);
        Checks.due("one, 1", new int[] {x.free(0), x.free(1)}, 1, 1);
        Checks.due("2, -1, far", new int[] {x.free(2), x.free(-1), x.free(HIGH), x.free(LOW)}, -1, -1, -1, -1);
    }

    static void p29_fiveOfTenPeople() {
        OneBullet x = new OneBullet();
        x.place(0, 0, 0);
        for (int k = 0; k < 10; k++) x.person(0, 0);
        x.quarrel(0, 9, 0, 0);
        x.quarrel(9, 1, 0, 0);
        for (int k = 0; k < 5; k++) x.quarrel(2 * k, 2 * k + 1, 0, 0);
        Checks.due("five, all but 0 and 1", new int[] {x.free(0), x.free(1)}, 5, 124);
    }

    static void p29_sevenWithOneInCommon() {
        OneBullet x = new OneBullet();
        x.place(0, 0, 0);
        for (int k = 0; k < 10; k++) x.person(0, 0);
        for (int k = 0; k < 7; k++) {
            if (k % 2 == 0) x.quarrel(9, k, 0, 0);
            else x.quarrel(k, 9, 0, 0);
        }
        Checks.due("one, the lowest", new int[] {x.free(0), x.free(1)}, 1, 1);
    }

    static void p29_theLowestAsBits() {
        OneBullet x = new OneBullet();
        x.place(0, 0, 0);
        for (int k = 0; k < 4; k++) x.person(0, 0);
        x.quarrel(0, 1, 0, 0);
        x.quarrel(0, 2, 0, 0);
        x.quarrel(1, 3, 0, 0);
        x.quarrel(2, 3, 0, 0);
        // 0 and 3 are 9, 1 and 2 are 6.
        Checks.due("6", new int[] {x.free(0), x.free(1)}, 2, 6);
    }

    static void p29_nothingElseMatters() {
        OneBullet x = Checks.under("bars");
        x.quarrel(2, 0, 0, 0);
        x.terms(0, 999);
        x.put(0, 0);
        Checks.due("barred, late, too light", x.free(0), 1);
    }

    // ---- Promise 30: marks. "n SHOTS 1 .. 3 into PLACES that are no lakes".

    static void p30_n1To3() {
        OneBullet x = new OneBullet();
        x.place(0, 0, 0);
        Checks.due("1, 2, 3", new int[] {x.marks(1, 100, 0, -1), x.marks(2, 100, 0, -1), x.marks(3, 100, 0, -1)}, 1, 1, 1);
        Checks.due("0, 4, -1, far",
            new int[] {x.marks(0, 100, 0, -1), x.marks(4, 100, 0, -1), x.marks(-1, 100, 0, -1), x.marks(HIGH, 100, 0, -1), x.marks(LOW, 100, 0, -1)},
            -1, -1, -1, -1, -1);
    }

    static void p30_weight0To999() {
        OneBullet x = new OneBullet();
        x.place(0, 0, 0);
        Checks.due("none by 0, by 999", new int[] {x.marks(1, 0, 0, -1), x.marks(1, 999, 0, -1)}, 0, 0);
        Checks.due("-1, 1000, far", new int[] {x.marks(1, -1, 0, -1), x.marks(1, 1000, 0, -1), x.marks(1, HIGH, 0, -1), x.marks(1, LOW, 0, -1)}, -1, -1, -1, -1);
        x.put(0, 999);
        Checks.due("999", x.marks(1, 999, 0, -1), 1);
    }

    static void p30_flat0To99() {
        OneBullet x = new OneBullet();
        x.place(0, 0, 0);
        Checks.due("none by 99", x.marks(1, 100, 99, -1), 0);
        Checks.due("-1, 100, far", new int[] {x.marks(1, 100, -1, -1), x.marks(1, 100, 100, -1), x.marks(1, 100, HIGH, -1), x.marks(1, 100, LOW, -1)}, -1, -1, -1, -1);
        x.put(1, 99);
        Checks.due("99", x.marks(1, 100, 99, -1), 1);
    }

    static void p30_iNoneTo1LessThanN() {
        OneBullet x = Checks.province();
        // A wall, then a wood: 94 - 2, 3 + 1; or the other way round.
        Checks.due("how many", x.marks(2, 92, 4, -1), 2);
        Checks.due("the first", new int[] {x.marks(2, 92, 4, 0), x.marks(2, 92, 4, 1)}, 0, 1);
        Checks.due("2, -2, far", new int[] {x.marks(2, 92, 4, 2), x.marks(2, 92, 4, -2), x.marks(2, 92, 4, HIGH), x.marks(2, 92, 4, LOW)}, -1, -1, -1, -1);
        Checks.due("none, for these", new int[] {x.marks(2, 93, 4, -1), x.marks(2, 93, 4, 0)}, 0, -1);
        Checks.due("three", new int[] {x.marks(3, 86, 7, -1), x.marks(3, 86, 7, 0), x.marks(3, 86, 7, 1), x.marks(3, 86, 7, 2), x.marks(3, 86, 7, 3)}, 3, 0, 0, 1, -1);
    }

    static void p30_justThatWeightAndThatFlat() {
        OneBullet x = Checks.province();
        Checks.due("94 and 3", x.marks(1, 94, 3, -1), 1);
        Checks.due("FLAT 2, 4, 0, 99", new int[] {x.marks(1, 94, 2, -1), x.marks(1, 94, 4, -1), x.marks(1, 94, 0, -1), x.marks(1, 94, 99, -1)}, 0, 0, 0, 0);
        Checks.due("WEIGHT 93, 95, 0, 999", new int[] {x.marks(1, 93, 3, -1), x.marks(1, 95, 3, -1), x.marks(1, 0, 3, -1), x.marks(1, 999, 3, -1)}, 0, 0, 0, 0);
    }

    static void p30_noPlaces() {
        OneBullet x = new OneBullet();
        Checks.due("no rows", new int[] {x.marks(1, 100, 0, -1), x.marks(1, 100, 0, 0)}, 0, -1);
        x.place(2, 0, 0);
        Checks.due("lakes alone", new int[] {x.marks(1, 100, 0, -1), x.marks(3, 100, 0, -1)}, 0, 0);
    }

    static void p30_noLakes() {
        OneBullet x = new OneBullet();
        x.place(2, 0, 0);
        x.place(3, 0, 0);
        x.place(2, 0, 0);
        Checks.due("one, into 1", new int[] {x.marks(2, 100, 0, -1), x.marks(2, 100, 0, 0), x.marks(2, 100, 0, 1)}, 1, 1, 1);
    }

    static void p30_twelvePlaces() {
        OneBullet x = new OneBullet();
        for (int k = 0; k < 11; k++) x.place(0, 0, 0);
        x.place(0, 99, 0);
        Checks.due("11 by 11 by 11", x.marks(3, 100, 0, -1), 1331);
        Checks.due("once into the last", new int[] {x.marks(3, 91, 4, -1), x.marks(3, 91, 4, 0), x.marks(3, 91, 4, 2)}, 363, 0, 11);
        Checks.due("all into the last", new int[] {x.marks(3, 73, 12, -1), x.marks(3, 73, 12, 0), x.marks(3, 73, 12, 2)}, 1, 11, 11);
    }

    static void p30_asIfLeastWere1() {
        OneBullet x = new OneBullet();
        x.place(0, 10, 0);
        x.terms(2, 99);
        x.put(0, 3);
        Checks.due("3 shots from 3", x.marks(3, 0, 0, -1), 1);
        x.put(0, 2);
        Checks.due("3 shots from 2", x.marks(3, 0, 0, -1), 0);
        x.put(0, 1);
        Checks.due("one from 1", x.marks(1, 0, 0, -1), 1);
        x.put(0, 0);
        Checks.due("one from 0", x.marks(1, 0, 0, -1), 0);
        Checks.due("LEAST is as it was", x.count(15), 99);
    }

    static void p30_asIfItWereNotLost() {
        OneBullet x = Checks.province();
        x.fire(0, 2);
        Checks.due("from 96, FLAT 2", x.marks(1, 90, 5, -1), 1);
        Checks.due("lost still", x.bullet(3), 1);
    }

    static void p30_barsAndPeopleAside() {
        OneBullet x = new OneBullet();
        x.place(0, 60, 0);
        Checks.due("no people", x.marks(1, 94, 3, -1), 1);
        OneBullet y = Checks.under("bars");
        Checks.due("barred", y.marks(1, 94, 3, -1), 1);
    }

    static void p30_tenPeopleAside() {
        for (int aim = 0; aim < 11; aim++) {
            OneBullet x = Checks.province();
            for (int k = 3; k < 10; k++) x.person(aim, k % 2);
            for (int k = 0; k < 3; k++) x.quarrel(8, 9, k % 2, 999);
            Checks.due("of AIM " + aim, new int[] {x.marks(2, 92, 4, -1), x.marks(2, 92, 4, 0), x.marks(2, 92, 4, 1), x.marks(3, 82, 9, -1)}, 2, 0, 1, 1);
            Checks.due("rows, weight, spades", new int[] {x.queue(0), x.queue(21), x.spades()}, 6, 44, 1);
        }
    }

    static void p30_bothEndsOfWhatBecomes() {
        OneBullet x = new OneBullet();
        x.place(0, 99, 0);
        x.put(0, 8);
        x.put(1, 96);
        Checks.due("0 at least, 99 at most", x.marks(1, 0, 99, -1), 1);
        Checks.due("no second one from 0", x.marks(2, 0, 99, -1), 0);
    }

    static void p30_lawsAskedAsAllIsThen() {
        OneBullet x = Checks.under("wears 1 + dents + day; flattens 0");
        // 0 0: 1, then 1 + 1 + 3; 0 1: 1, then 1 + 3; 1 0: 1, then 1 + 5; 1 1: 1, then 1 + 1 + 5.
        Checks.due("0 0", new int[] {x.marks(2, 94, 0, -1), x.marks(2, 94, 0, 0), x.marks(2, 94, 0, 1)}, 1, 0, 0);
        Checks.due("0 1", new int[] {x.marks(2, 95, 0, -1), x.marks(2, 95, 0, 0), x.marks(2, 95, 0, 1)}, 1, 0, 1);
        Checks.due("1 0", new int[] {x.marks(2, 93, 0, -1), x.marks(2, 93, 0, 0), x.marks(2, 93, 0, 1)}, 1, 1, 0);
        Checks.due("1 1", new int[] {x.marks(2, 92, 0, -1), x.marks(2, 92, 0, 0), x.marks(2, 92, 0, 1)}, 1, 1, 1);
    }

    static void p30_onPaper() {
        OneBullet x = Checks.province();
        int[] before = Checks.picture(x);
        x.marks(3, 86, 7, -1);
        x.marks(1, -1, 7, -1);
        Checks.same("marks", x, before);
        Checks.due("is no refusal", new int[] {x.count(7), x.status()}, 0, 0);
    }

    // ---- Promise 31: game. "who makes it lighter than LEAST has lost, who can't make it lighter at all, too".

    private static void game(String what, OneBullet x, int wins, int by, int lowest) {
        Checks.due(what, new int[] {x.game(0), x.game(1), x.game(2)}, wins, by, lowest);
    }

    static void p31_lighterThanLeastHasLost() {
        OneBullet x = new OneBullet();
        x.place(0, 10, 0);
        x.put(0, 20);
        game("from LEAST", x, 0, 0, -1);
        x.put(0, 21);
        game("to just LEAST", x, 1, 1, 0);
        x.put(0, 22);
        game("then the other one does", x, 0, 0, -1);
    }

    static void p31_canNotMakeItLighterAtAll() {
        OneBullet x = new OneBullet();
        game("no PLACE", x, 0, 0, -1);
        x.place(0, 9, 0);
        game("HARD 9 wears nothing", x, 0, 0, -1);
        x.place(2, 99, 0);
        game("a lake", x, 0, 0, -1);
        x.place(0, 10, 0);
        game("80 times 1", x, 0, 0, -1);
        x.put(0, 99);
        game("79 times 1", x, 1, 1, 2);
    }

    static void p31_noLakesButAllOtherKinds() {
        for (int kind = 0; kind < 4; kind++) {
            OneBullet x = new OneBullet();
            x.place(kind, 10, 0);
            x.put(0, 21);
            game("kind " + kind, x, kind == 2 ? 0 : 1, kind == 2 ? 0 : 1, kind == 2 ? -1 : 0);
        }
    }

    static void p31_theOtherCanNotMakeItLighter() {
        OneBullet x = Checks.under("wears 0; wears 1 if weight = 50");
        x.put(0, 50);
        game("49 stays", x, 1, 2, 0);
        x.put(0, 51);
        game("51 stays", x, 0, 0, -1);
    }

    static void p31_canNotBeFired() {
        OneBullet x = Checks.province();
        x.put(0, 19);
        game("too light", x, -1, -1, -1);
        x.put(0, 20);
        game("LEAST", x, 0, 0, -1);
        x.put(0, 100);
        x.fire(0, 2);
        game("lost", x, -1, -1, -1);
        Checks.due("is no refusal", x.status(), 0);
    }

    static void p31_what0To2() {
        OneBullet x = Checks.province();
        x.put(0, 98);
        game("won", x, 1, 2, 0);
        Checks.due("3, -1, far", new int[] {x.game(3), x.game(-1), x.game(HIGH), x.game(LOW)}, -1, -1, -1, -1);
    }

    static void p31_theHeaviestByLeast1() {
        OneBullet x = new OneBullet();
        x.place(0, 10, 0);
        x.terms(2, 1);
        x.put(0, 999);
        game("998 times 1", x, 0, 0, -1);
        x.put(0, 998);
        game("997 times 1", x, 1, 1, 0);
        x.put(0, 1);
        game("to 0 is lighter than 1", x, 0, 0, -1);
        x.put(0, 2);
        game("to 1", x, 1, 1, 0);
    }

    static void p31_wornMoreThanThereIs() {
        OneBullet x = new OneBullet();
        x.place(0, 99, 0);
        x.terms(2, 1);
        x.put(0, 5);
        game("to 0", x, 0, 0, -1);
        x.put(0, 10);
        game("to 1", x, 1, 1, 0);
    }

    static void p31_twelvePlaces() {
        OneBullet x = new OneBullet();
        for (int k = 0; k < 12; k++) x.place(0, 10, 0);
        x.put(0, 21);
        game("by all", x, 1, 12, 0);
        OneBullet y = new OneBullet();
        for (int k = 0; k < 11; k++) y.place(k == 5 ? 2 : 0, 20, 0);
        y.place(0, 10, 0);
        y.put(0, 21);
        game("by the last alone", y, 1, 1, 11);
        y.put(0, 22);
        game("by all that wear 2 and are no lakes", y, 1, 10, 0);
        y.put(0, 23);
        game("to 22 or 21, which win", y, 0, 0, -1);
    }

    static void p31_flatRustDayDentsAsTheyAre() {
        // Each asked of as it is now: 1 by each shot, however many were fired in the game.
        for (String word : new String[] {"flat", "rust", "day", "dents"}) {
            OneBullet x = Checks.under("wears 1; wears 2 if " + word + " > 0; flattens 5");
            x.put(0, 23);
            game(word, x, 1, 2, 0);
            x.put(0, 22);
            game(word, x, 0, 0, -1);
        }
    }

    static void p31_barsAndPeopleDoNotMatter() {
        OneBullet x = Checks.under("wears 1; bars");
        x.put(0, 21);
        game("barred", x, 1, 2, 0);
    }

    static void p31_onPaper() {
        OneBullet x = Checks.province();
        int[] before = Checks.picture(x);
        x.game(1);
        Checks.same("game", x, before);
    }

    // ---- Promise 32: share. "in lowest terms"; "NONE (none was lost)".

    static void p32_noneWasLost() {
        OneBullet x = Checks.province();
        x.place(3, 9, 0);
        Checks.due("no shot", new int[] {x.share(0, 0), x.share(0, 1), x.share(1, 0), x.share(1, 1)}, -1, -1, -1, -1);
        x.fire(0, 3);
        Checks.due("a shot that wears nothing", new int[] {x.share(0, 0), x.share(0, 1)}, -1, -1);
        x.put(0, 50);
        Checks.due("put() is no shot", x.share(0, 0), -1);
    }

    static void p32_oneWasLost() {
        OneBullet x = pair(0, 10, 0, 0, 0, 0);
        x.fire(1, 0);
        Checks.due("1", new int[] {x.share(0, 0), x.share(0, 1), x.share(1, 0), x.share(1, 1)}, 0, 1, 1, 1);
    }

    static void p32_allAndNothing() {
        OneBullet x = Checks.province();
        x.fire(1, 0);
        Checks.due("0 by 1, 1 by 1", new int[] {x.share(0, 0), x.share(0, 1), x.share(1, 0), x.share(1, 1)}, 0, 1, 1, 1);
    }

    static void p32_lowestTerms() {
        OneBullet x = Checks.province();
        x.fire(0, 0);
        x.fire(1, 1);
        Checks.due("3 by 4, 1 by 4", new int[] {x.share(0, 0), x.share(0, 1), x.share(1, 0), x.share(1, 1)}, 3, 4, 1, 4);
        x.fire(1, 1);
        x.fire(1, 1);
        Checks.due("halves", new int[] {x.share(0, 0), x.share(0, 1), x.share(1, 0), x.share(1, 1)}, 1, 2, 1, 2);
        OneBullet y = Checks.under("wears 7; wears 5 if place = 1");
        y.fire(0, 0);
        y.fire(1, 1);
        Checks.due("7 by 12, 5 by 12", new int[] {y.share(0, 0), y.share(0, 1), y.share(1, 0), y.share(1, 1)}, 7, 12, 5, 12);
    }

    static void p32_courtAndWhat0To1() {
        OneBullet x = Checks.province();
        x.fire(0, 0);
        Checks.due("courts 2, -1, far", new int[] {x.share(2, 0), x.share(-1, 0), x.share(HIGH, 0), x.share(LOW, 0)}, -1, -1, -1, -1);
        Checks.due("what 2, -1, far", new int[] {x.share(0, 2), x.share(0, -1), x.share(0, HIGH), x.share(0, LOW)}, -1, -1, -1, -1);
    }

    // ---- Promise 33: season. "s is the SEED (0 .. 1,000,000)", "n 1 .. 30".

    static void p33_seed0To1000000() {
        OneBullet x = new OneBullet();
        Checks.due("0, 1000000", new int[] {x.season(0, 1), x.status(), x.season(1000000, 1), x.status()}, 0, 0, 0, 0);
        Checks.due("-1, 1000001, far", new int[] {x.season(-1, 1), x.season(1000001, 1), x.season(HIGH, 1), x.season(LOW, 1)}, -1, -1, -1, -1);
        Checks.due("by -1", new int[] {x.status(), x.count(7)}, -1, 4);
    }

    static void p33_n1To30() {
        OneBullet x = new OneBullet();
        Checks.due("0, 31, -1, far", new int[] {x.season(0, 0), x.season(0, 31), x.season(0, -1), x.season(0, HIGH), x.season(0, LOW)}, -1, -1, -1, -1, -1);
        Checks.due("none is the latest", x.drawn(0), -1);
        Checks.due("1", new int[] {x.season(0, 1), x.drawn(4)}, 0, 3);
        Checks.due("30", new int[] {x.season(0, 30), x.drawn(4)}, 0, 90);
    }

    static void p33_withoutQuarrelsOneRests() {
        OneBullet x = new OneBullet();
        x.season(7, 2);
        Checks.due("6 DAYS", new int[] {x.drawn(0), x.drawn(1), x.drawn(2), x.drawn(3), x.drawn(4), x.drawn(5)}, 100, 0, 6, 0, 6, 0);
    }

    static void p33_restsToTheLastDay() {
        OneBullet x = new OneBullet();
        x.terms(0, 996);
        x.season(0, 1);
        Checks.due("just 999", new int[] {x.drawn(4), x.drawn(2)}, 999, 3);
        x.terms(0, 997);
        x.season(0, 2);
        Checks.due("not 1000", new int[] {x.drawn(4), x.drawn(2)}, 999, 2);
        x.terms(0, 0);
        x.put(2, 97);
        x.season(0, 1);
        Checks.due("RUST 99", new int[] {x.drawn(4), x.drawn(2)}, 3, 99);
    }

    static void p33_aDrawOfTheQuarrels() {
        // SEED 0 becomes 12345: of seven the 4th, of six the 3rd, of five 0, of two 1. Only that one is a hit.
        int[][] rows = {{7, 4}, {6, 3}, {5, 0}, {4, 1}, {3, 0}, {2, 1}, {1, 0}};
        for (int[] row : rows) {
            OneBullet x = Checks.province();
            x.person(0, 0);
            for (int k = 0; k < row[0]; k++) x.quarrel(k == row[1] ? 2 : 1, 3, 1, 0);
            Checks.due("of " + row[0], new int[] {x.season(0, 1), x.drawn(5), x.drawn(0)}, 1, row[0] - 1, 100);
        }
    }

    static void p33_drawsGoOnThroughItsShots() {
        // 870345 becomes 0 (the QUARREL), 12345 (5), 628841 (1), 621889 (9), 953857 (7).
        OneBullet x = pair(0, 10, 0, 5, 2, 0);
        Checks.due("5 is not below 5, 1 is below 2", new int[] {x.season(870345, 1), x.drawn(0)}, 1, 99);
        x = pair(0, 10, 0, 5, 1, 0);
        Checks.due("none is below", new int[] {x.season(870345, 1), x.drawn(0)}, 0, 96);
        x = pair(0, 10, 0, 6, 0, 0);
        Checks.due("5 is below 6", new int[] {x.season(870345, 1), x.drawn(0)}, 1, 100);
        x = pair(0, 10, 0, 5, 1, 0);
        x.quarrel(1, 0, 0, 0);
        x.quarrel(0, 1, 0, 0);
        // Behind the four shots 953857 becomes 113460 (of two left 0), 158350 (0): below 1, which is the first one's AIM there.
        Checks.due("the second one goes on", new int[] {x.season(870345, 2), x.drawn(0), x.drawn(5)}, 1, 96, 1);
    }

    static void p33_howManyWereHit() {
        OneBullet x = new OneBullet();
        x.place(0, 0, 0);
        for (int k = 0; k < 10; k++) x.person(k < 5 ? 10 : 0, 0);
        for (int k = 0; k < 3; k++) x.quarrel(k, 5 + k, 0, 0);
        x.quarrel(8, 3, 0, 0);
        x.quarrel(9, 8, 0, 0);
        // Three ENDS 1, one END 2, one END 0 as soon as 8 is well.
        Checks.due("four", new int[] {x.season(3, 30), x.drawn(5)}, 4, 0);
        Checks.due("on paper", new int[] {x.count(2), x.of(5, 2), x.count(3), x.count(5)}, 5, 0, 0, 0);
    }

    static void p33_end3IsNoHit() {
        OneBullet x = pair(2, 0, 0, 0, 0, 0);
        Checks.due("lost", new int[] {x.season(0, 1), x.drawn(3), x.drawn(5)}, 0, 1, 0);
    }

    static void p33_oneThatCanNotBeHadIsARest() {
        OneBullet x = Checks.under("bars if place = 0");
        x.quarrel(2, 0, 0, 0);
        Checks.due("barred", new int[] {x.season(0, 2), x.drawn(4), x.drawn(5)}, 0, 6, 1);
        x.force(-1);
        x.put(0, 19);
        Checks.due("too light", new int[] {x.season(0, 2), x.drawn(4), x.drawn(5)}, 0, 6, 1);
        x.put(0, 20);
        Checks.due("LEAST", new int[] {x.season(0, 2), x.drawn(4), x.drawn(5)}, 1, 3, 0);
        x.quarrel(2, 0, 1, 0);
        // Hit on 0 and HURT till 7: the other one can be had behind three RESTS, on 9.
        Checks.due("hurt", new int[] {x.season(0, 4), x.drawn(4), x.drawn(5)}, 1, 9, 1);
        Checks.due("well", new int[] {x.season(0, 5), x.drawn(4), x.drawn(5)}, 2, 9, 0);
    }

    static void p33_beingLateDoesNotMatter() {
        OneBullet x = pair(0, 0, 0, 10, 0, 0);
        x.terms(0, 500);
        Checks.due("had", new int[] {x.season(0, 1), x.drawn(4), x.drawn(5)}, 1, 500, 0);
    }

    static void p33_onPaper() {
        OneBullet x = Checks.province();
        x.quarrel(0, 1, 0, 0);
        x.season(0, 30);
        int[] before = Checks.picture(x);
        x.season(0, 30);
        Checks.same("season", x, before);
        Checks.due("nothing to undo", x.count(5), 0);
    }

    // ---- Promise 34: drawn.

    static void p34_noneAheadOfAny() {
        OneBullet x = new OneBullet();
        for (int what = 0; what < 6; what++) Checks.due("what " + what, x.drawn(what), -1);
        x.season(0, 31);
        Checks.due("behind a refused one", x.drawn(0), -1);
    }

    static void p34_what0To5() {
        OneBullet x = pair(0, 60, 3, 0, 0, 0);
        x.season(0, 1);
        // Four shots: 24 worn, 12 flatter, 12 DAYS.
        Checks.due("all", new int[] {x.drawn(0), x.drawn(1), x.drawn(2), x.drawn(3), x.drawn(4), x.drawn(5)}, 76, 12, 12, 0, 12, 0);
        Checks.due("6, -1, far", new int[] {x.drawn(6), x.drawn(-1), x.drawn(HIGH), x.drawn(LOW)}, -1, -1, -1, -1);
    }

    static void p34_theLatestThatWasNotRefused() {
        OneBullet x = new OneBullet();
        x.season(0, 1);
        x.season(0, 2);
        Checks.due("6 DAYS", x.drawn(4), 6);
        x.season(0, 31);
        x.season(-1, 1);
        Checks.due("6 DAYS still", x.drawn(4), 6);
        x.rest(9);
        x.undo();
        x.image(0);
        x.season(0, 3);
        x.back(0);
        Checks.due("9 DAYS, not kept by an IMAGE", x.drawn(4), 9);
    }

    public static void main(String[] args) throws Exception {
        Checks.runAll(PaperEdgeTest.class, 26, 27, 28, 29, 30, 31, 32, 33, 34);
    }
}
