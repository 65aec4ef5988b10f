/** Edges of shots, duels, rests, what can be undone, the log (promises 21 to 25, Terms III). */
public final class DeedEdgeTest {
    private static final int LOW = Integer.MIN_VALUE;
    private static final int HIGH = Integer.MAX_VALUE;

    /** One PLACE, two PEOPLE of COURTS 0 and 1. */
    private static OneBullet at(int kind, int hard, int deep) {
        OneBullet x = new OneBullet();
        x.place(kind, hard, deep);
        x.person(0, 0);
        x.person(0, 1);
        return x;
    }

    /** A SEED by which the first DRAW of 10 is that. */
    private static int seedFor(int draw) {
        for (int seed = 0; seed < 1000; seed++) {
            if ((seed * 1103L + 12345) % 1000003 % 10 == draw) return seed;
        }
        return -1;
    }

    // ---- Promise 21: fire. "-2; -3 (HURT, BARRED, it can't be FIRED)."

    static void p21_noSuchPersonOrPlace() {
        OneBullet x = Checks.province();
        Checks.due("people 3, -1, far", new int[] {x.fire(3, 0), x.fire(-1, 0), x.fire(HIGH, 0), x.fire(LOW, 0)}, -2, -2, -2, -2);
        Checks.due("places 3, -1, far", new int[] {x.fire(0, 3), x.fire(0, -1), x.fire(0, HIGH), x.fire(0, LOW)}, -2, -2, -2, -2);
        Checks.due("none was fired", new int[] {x.count(3), x.bullet(0), x.count(5), x.count(8)}, 0, 100, 0, 8);
        Checks.due("the last that are there", x.fire(2, 2), 96);
    }

    static void p21_whoIsHurt() {
        OneBullet x = Checks.province();
        x.quarrel(2, 0, 0, 0);
        x.duel(0, 0);
        int[] before = Checks.picture(x);
        Checks.due("hurt", new int[] {x.fire(0, 0), x.status()}, -3, -3);
        Checks.same("refused", x, before);
        Checks.due("the other one is not", x.fire(2, 0), 94);
        x.terms(0, 6);
        Checks.due("on the last day", x.fire(0, 0), -3);
        x.terms(0, 7);
        Checks.due("well", x.fire(0, 0), 88);
    }

    static void p21_whoIsBarred() {
        OneBullet x = Checks.under("bars if person = 0 and place = 0");
        int[] before = Checks.picture(x);
        Checks.due("barred", x.fire(0, 0), -3);
        Checks.same("refused", x, before);
        Checks.due("elsewhere, another", new int[] {x.fire(0, 1), x.fire(1, 0)}, 98, 92);
    }

    static void p21_whenItCanNotBeFired() {
        OneBullet x = Checks.province();
        x.put(0, 19);
        int[] before = Checks.picture(x);
        Checks.due("below LEAST", x.fire(0, 0), -3);
        Checks.same("refused", x, before);
        x.put(0, 20);
        Checks.due("LEAST", x.fire(0, 0), 14);
        x.put(0, 100);
        x.fire(0, 2);
        Checks.due("lost", x.fire(0, 0), -3);
        Checks.due("missing ahead of that", new int[] {x.fire(3, 0), x.fire(0, 3)}, -2, -2);
    }

    static void p21_missingAheadOfHurtAndBarred() {
        OneBullet x = Checks.under("bars");
        Checks.due("-2 first", new int[] {x.fire(0, 3), x.fire(3, 0), x.fire(0, 0)}, -2, -2, -3);
    }

    // "WEIGHT is less by the one (0 at least; the COURT's LEAD more by what it lost)".

    static void p21_weight0AtLeast() {
        OneBullet x = Checks.under("wears 99");
        x.terms(2, 99);
        x.put(0, 99);
        Checks.due("just all of it", new int[] {x.fire(0, 0), x.count(18)}, 0, 99);
        x.terms(2, 1);
        x.put(0, 98);
        Checks.due("more than there is", new int[] {x.fire(0, 0), x.count(18)}, 0, 197);
        x.put(0, 100);
        Checks.due("less than there is", new int[] {x.fire(0, 0), x.count(18)}, 1, 296);
    }

    static void p21_leadIsTheCourtsOwn() {
        OneBullet x = Checks.province();
        x.fire(1, 0);
        Checks.due("of court 1", new int[] {x.count(18), x.count(19)}, 0, 6);
        x.fire(0, 1);
        Checks.due("of court 0", new int[] {x.count(18), x.count(19)}, 2, 6);
        x.fire(2, 2);
        Checks.due("into a lake, too", new int[] {x.count(18), x.count(19)}, 2, 10);
    }

    static void p21_flat99AtMost() {
        OneBullet x = Checks.province();
        x.put(1, 96);
        x.fire(0, 0);
        Checks.due("just 99", x.bullet(1), 99);
        x.put(1, 97);
        x.fire(0, 0);
        Checks.due("not 100", x.bullet(1), 99);
        x.put(1, 95);
        x.fire(0, 0);
        Checks.due("98", x.bullet(1), 98);
    }

    static void p21_bothAreAskedAsTheBulletIsAheadOfIt() {
        OneBullet x = Checks.under("wears flat + dents + 1; flattens weight - 90 + dents");
        Checks.due("WEIGHT by FLAT 0, no dents", x.fire(0, 0), 99);
        Checks.due("FLAT by WEIGHT 100, no dents", x.bullet(1), 10);
        Checks.due("WEIGHT by FLAT 10, one dent", x.fire(0, 0), 87);
        Checks.due("FLAT by WEIGHT 99, one dent", x.bullet(1), 20);
    }

    static void p21_bothAreAskedOfThePlaceAlone() {
        // person and aim are -1, whoever fires.
        OneBullet x = Checks.under("wears 5 + person + aim; flattens 9 + person + aim * 2");
        Checks.due("by 0, by 2", new int[] {x.at(0, 4), x.at(0, 5), x.fire(0, 0), x.bullet(1), x.fire(2, 0), x.bullet(1)}, 3, 6, 97, 6, 94, 12);
        x.quarrel(1, 2, 1, 0);
        Checks.law(x, "aims 0; wears 5 + person + aim; flattens 9 + person + aim * 2");
        x.force(1);
        Checks.due("in a duel", new int[] {x.duel(0, 0), x.bullet(0), x.bullet(1)}, 0, 82, 36);
    }

    // "DAY is later by DEEP by SPADES, cut upwards (999 at most), RUST by as many DAYS (99 at most)".

    static void p21_deepBySpadesCutUpwards() {
        int[][] rows = {{0, 1, 0}, {0, 9, 0}, {1, 1, 1}, {1, 9, 1}, {9, 9, 1}, {10, 9, 2}, {18, 9, 2}, {19, 9, 3}, {20, 1, 20}, {20, 9, 3},
            {20, 2, 10}, {19, 2, 10}, {7, 3, 3}, {6, 3, 2}};
        for (int[] row : rows) {
            OneBullet x = at(3, 0, row[0]);
            x.terms(3, row[1]);
            x.fire(0, 0);
            Checks.due("DEEP " + row[0] + " by " + row[1], new int[] {x.count(13), x.bullet(2)}, row[2], row[2]);
        }
    }

    static void p21_day999AtMost() {
        OneBullet x = at(1, 0, 5);
        x.terms(0, 994);
        x.fire(0, 0);
        Checks.due("just 999", new int[] {x.count(13), x.bullet(2)}, 999, 5);
        x.put(2, 0);
        x.terms(0, 995);
        x.fire(0, 0);
        Checks.due("not 1000, RUST by the DAYS that came", new int[] {x.count(13), x.bullet(2)}, 999, 4);
        x.fire(0, 0);
        Checks.due("999 still", new int[] {x.count(13), x.bullet(2), x.count(3)}, 999, 4, 3);
    }

    static void p21_rust99AtMost() {
        OneBullet x = at(1, 0, 5);
        x.put(2, 94);
        x.fire(0, 0);
        Checks.due("just 99", new int[] {x.bullet(2), x.count(13)}, 99, 5);
        x.put(2, 95);
        x.fire(0, 0);
        Checks.due("not 100", new int[] {x.bullet(2), x.count(13)}, 99, 10);
    }

    static void p21_inALakeItIsLostNotDugOut() {
        OneBullet x = at(2, 50, 20);
        Checks.due("weight", x.fire(0, 0), 95);
        Checks.due("flat, rust, lost, dents, log, day",
            new int[] {x.bullet(1), x.bullet(2), x.bullet(3), x.at(0, 3), x.log(0), x.count(13)}, 2, 0, 1, 1, 0, 0);
    }

    static void p21_inOtherKindsItIsNotLost() {
        for (int kind = 0; kind < 4; kind++) {
            OneBullet x = at(kind, 0, 1);
            x.fire(0, 0);
            Checks.due("kind " + kind, new int[] {x.bullet(3), x.count(13)}, kind == 2 ? 1 : 0, kind == 2 ? 0 : 1);
        }
    }

    // ---- Promise 22: duel. "-1; -2; -3." SEED 0 .. 1,000,000.

    static void p22_seed0To1000000() {
        OneBullet x = Checks.province();
        for (int k = 0; k < 3; k++) x.quarrel(2, 0, 0, 0);
        Checks.due("1000001, -1, far", new int[] {x.duel(0, 1000001), x.duel(0, -1), x.duel(0, HIGH), x.duel(0, LOW)}, -1, -1, -1, -1);
        Checks.due("it stays", x.count(2), 3);
        Checks.due("1000000", x.duel(0, 1000000), 1);
        x.rest(7);
        Checks.due("0", x.duel(0, 0), 1);
    }

    static void p22_noSuchQuarrel() {
        OneBullet x = Checks.province();
        Checks.due("none is there", x.duel(0, 0), -2);
        x.quarrel(2, 0, 0, 0);
        Checks.due("1, -1, far", new int[] {x.duel(1, 0), x.duel(-1, 0), x.duel(HIGH, 0), x.duel(LOW, 0)}, -2, -2, -2, -2);
        Checks.due("0", x.duel(0, 0), 1);
        Checks.due("it is gone", x.duel(0, 0), -2);
    }

    static void p22_theFirstRefusalInTheirOrder() {
        OneBullet x = Checks.under("bars");
        x.quarrel(2, 0, 0, 0);
        Checks.due("-1 ahead of -2, of -3", new int[] {x.duel(1, -1), x.duel(0, -1)}, -1, -1);
        Checks.due("-2 ahead of -3", new int[] {x.duel(1, 0), x.duel(0, 0)}, -2, -3);
    }

    static void p22_neitherHurt() {
        OneBullet x = Checks.province();
        x.quarrel(2, 0, 0, 0);
        x.quarrel(0, 1, 0, 0);
        x.quarrel(1, 0, 0, 0);
        x.duel(0, 0);
        int[] before = Checks.picture(x);
        Checks.due("the first, the second", new int[] {x.duel(0, 0), x.duel(1, 0)}, -3, -3);
        Checks.same("refused", x, before);
        x.rest(7);
        Checks.due("well", x.duel(0, 870345), 1);
    }

    static void p22_neitherBarred() {
        OneBullet x = Checks.under("bars if person = 0 and place = 0");
        x.quarrel(2, 0, 0, 0);
        x.quarrel(0, 2, 0, 0);
        x.quarrel(2, 0, 1, 0);
        int[] before = Checks.picture(x);
        Checks.due("the second, the first", new int[] {x.duel(0, 0), x.duel(1, 0)}, -3, -3);
        Checks.same("refused", x, before);
        Checks.due("elsewhere", x.duel(2, 0), 1);
    }

    static void p22_itMustBeFitToBeFired() {
        OneBullet x = Checks.province();
        x.quarrel(2, 0, 0, 0);
        x.put(0, 19);
        int[] before = Checks.picture(x);
        Checks.due("too light", x.duel(0, 0), -3);
        Checks.same("refused", x, before);
        x.put(0, 20);
        Checks.due("LEAST", x.duel(0, 0), 1);
    }

    static void p22_barsAndHurtAreAskedAtItsBeginAlone() {
        OneBullet x = Checks.under("bars if dents > 0; aims 0");
        x.quarrel(2, 0, 0, 0);
        Checks.due("to its end", new int[] {x.duel(0, 0), x.count(3)}, 0, 4);
    }

    // "by turns, ROUNDS each".

    static void p22_rounds1To4() {
        for (int rounds = 1; rounds < 5; rounds++) {
            OneBullet x = at(0, 10, 1);
            x.terms(1, rounds);
            x.quarrel(0, 1, 0, 0);
            Checks.due("nobody", x.duel(0, 0), 0);
            Checks.due("shots, LEAD of both, DAY, dents",
                new int[] {x.count(3), x.count(18), x.count(19), x.count(13), x.at(0, 3)}, 2 * rounds, rounds, rounds, 2 * rounds, 2 * rounds);
        }
    }

    static void p22_theFirstOneFiresFirst() {
        OneBullet x = Checks.province();
        x.person(10, 0);
        x.quarrel(2, 3, 0, 0);
        x.quarrel(3, 2, 0, 0);
        Checks.due("3 is hit by 2", new int[] {x.duel(0, 0), x.of(3, 3), x.of(2, 3)}, 1, 1, 0);
        x.rest(7);
        Checks.due("2 is hit by 3", new int[] {x.duel(0, 0), x.of(3, 3), x.of(2, 3)}, 1, 0, 1);
    }

    static void p22_belowAimsItHits() {
        for (int aim = 0; aim < 11; aim++) {
            for (int draw = 0; draw < 10; draw++) {
                OneBullet x = at(2, 0, 0);
                int person = x.person(aim, 0);
                x.quarrel(person, 0, 0, 0);
                Checks.due("AIM " + aim + ", drawn " + draw, x.duel(0, seedFor(draw)), draw < aim ? 1 : 3);
            }
        }
    }

    static void p22_drawsAreModulo1000003() {
        // 870345 becomes 0, 413408 becomes 1, 327279 becomes 1,000,002: 2 of ten. 1,000,000 becomes 9,036: 6 of ten.
        int[][] rows = {{870345, 0}, {413408, 1}, {327279, 2}, {1000000, 6}, {0, 5}};
        for (int[] row : rows) {
            for (int aim = row[1]; aim < row[1] + 2; aim++) {
                OneBullet x = at(2, 0, 0);
                int person = x.person(aim, 0);
                x.quarrel(person, 0, 0, 0);
                Checks.due("SEED " + row[0] + " by AIM " + aim, x.duel(0, row[0]), aim > row[1] ? 1 : 3);
            }
        }
    }

    static void p22_eachShotIsADraw() {
        // SEED 0 becomes 12345 (5), 628841 (1), 621889 (9), 953857 (7).
        int[][] rows = {{6, 0, 1, 1}, {5, 1, 0, 4}, {5, 2, 2, 2}, {9, 0, 1, 1}, {0, 7, 2, 2}, {5, 0, 0, 4}, {10, 10, 1, 1}};
        for (int[] row : rows) {
            OneBullet x = new OneBullet();
            x.place(0, 0, 0);
            x.person(row[0], 0);
            x.person(row[1], 0);
            x.quarrel(0, 1, 0, 0);
            Checks.due("AIMS " + row[0] + ", " + row[1] + ": end, shots", new int[] {x.duel(0, 0), x.count(3)}, row[2], row[3]);
        }
        // By the LAW only the third, only the fourth shot can hit.
        OneBullet y = Checks.under("aims 10 if dents = 2");
        y.person(0, 0);
        y.quarrel(1, 3, 0, 0);
        Checks.due("the third", new int[] {y.duel(0, 0), y.count(3), y.bullet(5)}, 1, 3, 15);
        OneBullet z = Checks.under("aims 8 if dents = 3");
        z.person(0, 0);
        z.quarrel(1, 3, 0, 0);
        Checks.due("the fourth, 7 is below 8", new int[] {z.duel(0, 0), z.count(3), z.bullet(5)}, 2, 4, 13);
        OneBullet w = Checks.under("aims 7 if dents = 3");
        w.person(0, 0);
        w.quarrel(1, 3, 0, 0);
        Checks.due("the fourth, 7 is not below 7", new int[] {w.duel(0, 0), w.count(3), w.bullet(5)}, 0, 4, 0);
    }

    // "then the other one is HURT till seven DAYS behind, it goes into that one (the LOG; nothing is worn), and it ends".

    static void p22_whoIsHitIsHurtForSevenDays() {
        OneBullet x = Checks.province();
        x.terms(0, 992);
        x.quarrel(2, 0, 0, 0);
        x.duel(0, 0);
        Checks.due("till 999", new int[] {x.of(0, 2), x.of(2, 2), x.of(0, 3)}, 999, 0, 1);
        x.rest(6);
        Checks.due("on 998", x.of(0, 3), 1);
        x.rest(1);
        Checks.due("on 999", x.of(0, 3), 0);
    }

    static void p22_hurtTillBehindTheLastDay() {
        // Nothing cuts the DAY till which: one who is hit on 993 stays HURT on 999, the last DAY there is.
        OneBullet x = Checks.province();
        x.terms(0, 993);
        x.quarrel(2, 0, 0, 0);
        x.duel(0, 0);
        x.rest(99);
        Checks.due("on 999", new int[] {x.count(13), x.of(0, 2), x.of(0, 3)}, 999, 1000, 1);
    }

    static void p22_aHitWearsNothing() {
        OneBullet x = Checks.province();
        x.quarrel(2, 0, 0, 0);
        x.duel(0, 0);
        Checks.due("weight, flat, rust, lost, dents, day, leads, shots, where",
            new int[] {x.bullet(0), x.bullet(1), x.bullet(2), x.bullet(3), x.at(0, 3), x.count(13), x.count(18), x.count(19), x.count(3), x.log(0)},
            100, 0, 0, 0, 0, 0, 0, 0, 1, 12);
    }

    static void p22_hitAtALakeItIsNotLost() {
        OneBullet x = Checks.province();
        x.quarrel(2, 0, 2, 0);
        Checks.due("not lost", new int[] {x.duel(0, 0), x.bullet(3), x.bullet(4)}, 1, 0, 1);
    }

    static void p22_hitAgainAsSoonAsWell() {
        OneBullet x = Checks.province();
        x.quarrel(2, 0, 0, 0);
        x.quarrel(2, 0, 0, 0);
        x.duel(0, 0);
        x.rest(7);
        x.duel(0, 0);
        Checks.due("till 14", x.of(0, 2), 14);
    }

    // "It ENDS: .. 3 it can't be FIRED any more (LOST, too light) ahead of the last shot."

    static void p22_tooLightAheadOfTheLastShot() {
        // 1 is worn by each of four shots: from 23 the fourth is fired at 20, from 22 it can't be.
        OneBullet x = at(0, 10, 0);
        x.quarrel(0, 1, 0, 0);
        x.put(0, 23);
        Checks.due("too light behind the last", new int[] {x.duel(0, 0), x.count(3), x.bullet(0)}, 0, 4, 19);
        x.quarrel(0, 1, 0, 0);
        x.put(0, 22);
        Checks.due("too light ahead of the last", new int[] {x.duel(0, 0), x.count(3), x.bullet(0)}, 3, 7, 19);
        x.quarrel(0, 1, 0, 0);
        x.put(0, 20);
        Checks.due("too light behind the first", new int[] {x.duel(0, 0), x.count(3), x.count(2)}, 3, 8, 0);
    }

    static void p22_lostAheadOfTheLastShot() {
        OneBullet x = at(2, 0, 0);
        x.terms(1, 1);
        x.quarrel(0, 1, 0, 0);
        Checks.due("lost by the first of two", new int[] {x.duel(0, 0), x.count(3), x.bullet(3), x.count(2)}, 3, 1, 1, 0);
    }

    static void p22_itIsThatQuarrel() {
        for (int k = 0; k < 7; k++) {
            OneBullet x = new OneBullet();
            for (int p = 0; p < 7; p++) x.place(0, 10 * p, 0);
            for (int p = 0; p < 9; p++) x.person(0, 0);
            x.person(10, 1);
            // The first one misses, the second one, 9, hits.
            for (int q = 0; q < 7; q++) x.quarrel(8 - q, 9, 6 - q, 0);
            Checks.due("the first one is hit", new int[] {x.duel(k, 0), x.of(8 - k, 2), x.at(6 - k, 3), x.bullet(0)}, 2, 7, 1, 94 + k);
            Checks.due("the LOG", new int[] {x.log(0), x.log(1)}, 6 - k, 20 - k);
        }
        for (int k = 0; k < 7; k++) {
            OneBullet x = new OneBullet();
            for (int p = 0; p < 7; p++) x.place(0, 0, 0);
            for (int p = 0; p < 9; p++) x.person(0, 0);
            x.person(10, 1);
            for (int q = 0; q < 7; q++) x.quarrel(9, 8 - q, 6 - q, 0);
            Checks.due("the second one is hit", new int[] {x.duel(k, 0), x.of(8 - k, 2), x.log(0)}, 1, 7, 20 - k);
        }
    }

    static void p22_aimsAtTheQuarrelsPlace() {
        OneBullet x = Checks.under("aims 0; aims 10 if place = 1");
        x.quarrel(0, 1, 0, 0);
        x.quarrel(1, 0, 1, 0);
        Checks.due("at the wall, at the wood", new int[] {x.duel(0, 0), x.duel(0, 0)}, 0, 1);
    }

    // "The QUARREL is gone then, those behind it move up."

    static void p22_thoseBehindItMoveUp() {
        for (int gone = 0; gone < 7; gone++) {
            OneBullet x = Checks.province();
            for (int k = 0; k < 7; k++) x.quarrel(k % 2, 2, k % 3, 10 + k);
            x.duel(gone, 870345);
            Checks.due("six", x.count(2), 6);
            for (int k = 0; k < 6; k++) {
                int was = k < gone ? k : k + 1;
                Checks.due("quarrel " + k + " behind " + gone,
                    new int[] {x.about(k, 0), x.about(k, 1), x.about(k, 2), x.about(k, 3)}, was % 2, 2, was % 3, 10 + was);
            }
            Checks.due("there is no 6", x.about(6, 0), -1);
            Checks.due("one more is 6", x.quarrel(0, 1, 0, 0), 6);
        }
    }

    // ---- Promise 23: rest. "n DAYS 1 .. 99: DAY later (999 at most), RUST as many more (99 at most)."

    static void p23_days1To99() {
        OneBullet x = new OneBullet();
        Checks.due("0, 100, -1, far", new int[] {x.rest(0), x.rest(100), x.rest(-1), x.rest(HIGH), x.rest(LOW)}, -1, -1, -1, -1, -1);
        Checks.due("no day came", new int[] {x.count(13), x.bullet(2), x.count(5), x.count(7)}, 0, 0, 0, 5);
        Checks.due("1, 99", new int[] {x.rest(1), x.rest(99)}, 1, 100);
    }

    static void p23_day999AtMost() {
        OneBullet x = new OneBullet();
        x.terms(0, 900);
        Checks.due("just 999", x.rest(99), 999);
        Checks.due("999 still", x.rest(1), 999);
        x.terms(0, 901);
        Checks.due("not 1000", x.rest(99), 999);
    }

    static void p23_rustByTheDaysThatCame() {
        OneBullet x = new OneBullet();
        x.terms(0, 990);
        x.rest(20);
        Checks.due("nine", x.bullet(2), 9);
        x.rest(20);
        Checks.due("none came", x.bullet(2), 9);
    }

    static void p23_rust99AtMost() {
        OneBullet x = new OneBullet();
        x.rest(99);
        Checks.due("just 99", x.bullet(2), 99);
        x.rest(1);
        Checks.due("not 100", new int[] {x.bullet(2), x.count(13)}, 99, 100);
        x.put(2, 98);
        x.rest(1);
        Checks.due("just 99", x.bullet(2), 99);
    }

    static void p23_aRestCanAlwaysBeHad() {
        OneBullet x = Checks.under("bars");
        x.force(-1);
        x.fire(0, 2);
        x.force(0);
        Checks.due("lost, all barred", x.rest(2), 2);
    }

    // ---- Promise 24: undo. "0, 1, 2"; "16 are kept"; "-3 there is none".

    static void p24_sixteenAreKept() {
        OneBullet x = new OneBullet();
        for (int k = 0; k < 16; k++) x.rest(1);
        Checks.due("sixteen", x.count(5), 16);
        x.rest(1);
        Checks.due("sixteen still", x.count(5), 16);
        for (int k = 15; k >= 0; k--) Checks.due("undone, left, day", new int[] {x.undo(), x.count(5), x.count(13)}, 2, k, k + 1);
        Checks.due("the eldest is gone", new int[] {x.undo(), x.status(), x.count(13), x.count(9)}, -3, -3, 1, 1);
    }

    static void p24_exactlySixteen() {
        OneBullet x = new OneBullet();
        for (int k = 0; k < 16; k++) x.rest(1);
        for (int k = 0; k < 16; k++) x.undo();
        Checks.due("all undone", new int[] {x.count(13), x.bullet(2), x.undo()}, 0, 0, -3);
    }

    static void p24_roundAgainAndAgain() {
        OneBullet x = Checks.province();
        for (int k = 0; k < 40; k++) x.rest(1);
        for (int k = 0; k < 10; k++) x.undo();
        Checks.due("six left", new int[] {x.count(5), x.count(13)}, 6, 30);
        for (int k = 0; k < 12; k++) x.terms(4, 0);
        Checks.due("none left", x.count(5), 0);
        for (int k = 0; k < 20; k++) {
            if (k % 2 == 0) x.fire(1, 1);
            else x.rest(1);
        }
        for (int k = 19; k > 3; k--) Checks.due("the latest first", x.undo(), k % 2 == 0 ? 0 : 2);
        Checks.due("none, four stay", new int[] {x.undo(), x.count(3)}, -3, 2);
    }

    static void p24_allAreAsTheyWere() {
        OneBullet x = Checks.province();
        x.quarrel(0, 1, 0, 9);
        x.quarrel(2, 1, 1, 8);
        x.put(1, 98);
        x.put(2, 98);
        int[] ahead = Checks.picture(x);
        x.duel(0, 0);
        Checks.due("a duel", x.undo(), 1);
        Checks.same("duel", x, ahead);
        x.duel(1, 0);
        Checks.due("a duel with a hit", x.undo(), 1);
        Checks.same("hit", x, ahead);
        x.fire(0, 0);
        Checks.due("a shot", x.undo(), 0);
        Checks.same("shot", x, ahead);
        x.fire(0, 2);
        Checks.due("a shot into the lake", x.undo(), 0);
        Checks.same("lake", x, ahead);
        x.rest(99);
        Checks.due("a rest", x.undo(), 2);
        Checks.same("rest", x, ahead);
    }

    static void p24_aFullLogComesBack() {
        OneBullet x = at(3, 0, 0);
        x.place(3, 0, 0);
        x.fire(0, 1);
        for (int k = 0; k < 23; k++) x.fire(0, 0);
        x.fire(0, 0);
        Checks.due("the eldest is gone", x.log(0), 0);
        x.undo();
        Checks.due("it is back", new int[] {x.log(0), x.count(3)}, 1, 24);
    }

    static void p24_refusedDeedsAreNotKept() {
        OneBullet x = Checks.province();
        x.rest(1);
        x.fire(9, 0);
        x.duel(9, 0);
        x.rest(0);
        Checks.orders(x, "rest 1; rest 0");
        Checks.orders(x, "rest 1; rest");
        Checks.due("one", new int[] {x.count(5), x.undo(), x.undo()}, 1, 2, -3);
    }

    // "nothing that was ahead of a put(), place(), person(), quarrel(), row(), terms() that was not REFUSED can be undone".

    private static void ends(String what, OneBullet x, int answer) {
        Checks.due(what + " answered", answer >= 0 ? 1 : 0, 1);
        Checks.due(what + " ends it", new int[] {x.count(5), x.undo(), x.count(13)}, 0, -3, 1);
        x.rest(1);
        Checks.due("what is behind " + what, new int[] {x.count(5), x.undo(), x.undo()}, 1, 2, -3);
    }

    private static OneBullet rested() {
        OneBullet x = Checks.province();
        x.rest(1);
        return x;
    }

    static void p24_nothingAheadOfPut() {
        OneBullet x = rested();
        ends("put", x, x.put(1, 0));
    }

    static void p24_nothingAheadOfPlace() {
        OneBullet x = rested();
        ends("place", x, x.place(0, 0, 0));
    }

    static void p24_nothingAheadOfPerson() {
        OneBullet x = rested();
        ends("person", x, x.person(0, 0));
    }

    static void p24_nothingAheadOfQuarrel() {
        OneBullet x = rested();
        ends("quarrel", x, x.quarrel(0, 1, 0, 0));
    }

    static void p24_nothingAheadOfRow() {
        OneBullet x = rested();
        Checks.tape(x, "\1\1\1");
        ends("row", x, x.row());
        x = rested();
        Checks.tape(x, "\1\1");
        ends("row by which none came", x, x.row());
    }

    static void p24_nothingAheadOfTerms() {
        OneBullet x = rested();
        ends("terms", x, x.terms(4, 0));
    }

    static void p24_nothingAheadOfBack() {
        OneBullet x = Checks.province();
        x.terms(0, 1);
        x.image(0);
        x.terms(0, 0);
        x.rest(1);
        ends("back", x, x.back(0));
    }

    static void p24_refusedOnesEndNothing() {
        OneBullet x = rested();
        x.put(0, 1000);
        x.place(4, 0, 0);
        x.person(11, 0);
        x.quarrel(0, 0, 0, 0);
        x.row();
        x.terms(4, 10);
        x.back(0);
        x.back(2);
        Checks.due("one still", new int[] {x.count(5), x.undo()}, 1, 2);
        for (int k = 3; k < 12; k++) x.place(0, 0, 0);
        for (int k = 3; k < 10; k++) x.person(0, 0);
        for (int k = 0; k < 7; k++) x.quarrel(0, 1, 0, 0);
        x.rest(1);
        Checks.due("no room", new int[] {x.place(0, 0, 0), x.person(0, 0), x.quarrel(0, 1, 0, 0)}, -5, -5, -5);
        Checks.due("one still", new int[] {x.count(5), x.undo()}, 1, 2);
    }

    static void p24_otherCallsEndNothing() {
        OneBullet x = rested();
        Checks.law(x, "bars if 1 = 2");
        x.force(0);
        x.season(0, 1);
        x.image(0);
        x.feed(0, 0, 0, 0, 0);
        x.end(0);
        x.queue(0);
        x.spades();
        x.odds(0, 0);
        x.marks(1, 0, 0, -1);
        x.game(0);
        Checks.due("one still", new int[] {x.count(5), x.undo(), x.count(13)}, 1, 2, 0);
        Checks.due("the LAW stays in FORCE", new int[] {x.count(4), x.count(12)}, 1, 0);
    }

    static void p24_undoIsNotUndone() {
        OneBullet x = new OneBullet();
        x.rest(1);
        x.rest(2);
        x.undo();
        x.rest(5);
        Checks.due("two", new int[] {x.count(5), x.count(13)}, 2, 6);
        x.undo();
        x.undo();
        Checks.due("none", new int[] {x.count(13), x.undo()}, 0, -3);
    }

    // ---- Promise 25: log. "24 at most (the eldest goes)"; "a PLACE, or 12 more than a PERSON".

    static void p25_24AtMostTheEldestGoes() {
        OneBullet x = new OneBullet();
        x.person(0, 0);
        for (int k = 0; k < 12; k++) x.place(3, 0, 0);
        for (int k = 0; k < 24; k++) Checks.due("fire", x.fire(0, k % 12), 100);
        Checks.due("24, the eldest is 0", new int[] {x.count(3), x.log(0), x.log(23)}, 24, 0, 11);
        x.fire(0, 5);
        Checks.due("24 still, it is 1", new int[] {x.count(3), x.log(0), x.log(10), x.log(11), x.log(22), x.log(23)}, 24, 1, 11, 0, 11, 5);
        x.fire(0, 6);
        Checks.due("24 still, it is 2", new int[] {x.count(3), x.log(0), x.log(22), x.log(23), x.bullet(5)}, 24, 2, 5, 6, 6);
    }

    static void p25_noneBeyondItsEnds() {
        OneBullet x = Checks.province();
        Checks.due("empty", new int[] {x.log(0), x.log(-1)}, -1, -1);
        x.fire(0, 1);
        Checks.due("one", new int[] {x.log(0), x.log(1), x.log(-1), x.log(HIGH), x.log(LOW)}, 1, -1, -1, -1, -1);
    }

    static void p25_placesTo11PeopleFrom12To21() {
        OneBullet x = new OneBullet();
        for (int k = 0; k < 12; k++) x.place(3, 0, 0);
        for (int k = 0; k < 10; k++) x.person(10, 0);
        x.quarrel(9, 0, 0, 0);
        x.quarrel(1, 9, 0, 0);
        x.fire(0, 11);
        x.duel(0, 0);
        x.duel(0, 0);
        x.fire(1, 0);
        Checks.due("11, 12, 21, 0", new int[] {x.log(0), x.log(1), x.log(2), x.log(3), x.count(3)}, 11, 12, 21, 0, 4);
    }

    static void p25_aHitGoesIntoAFullLogToo() {
        OneBullet x = Checks.province();
        x.place(3, 0, 0);
        for (int k = 0; k < 24; k++) x.fire(0, 3);
        x.quarrel(2, 0, 0, 0);
        x.duel(0, 0);
        Checks.due("24, the latest", new int[] {x.count(3), x.log(22), x.log(23)}, 24, 3, 12);
    }

    public static void main(String[] args) throws Exception {
        Checks.runAll(DeedEdgeTest.class, 21, 22, 23, 24, 25);
    }
}
