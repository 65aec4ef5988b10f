/** Edges of the two languages, of laws and of orders (promises 15 to 20, Terms II). */
public final class TextEdgeTest {
    private static void lawReads(String text) {
        OneBullet x = new OneBullet();
        Checks.due("law " + text, Checks.law(x, text), 0);
        Checks.due("fault of law " + text, x.fault(), -1);
    }

    private static void lawFault(String text, int where) {
        OneBullet x = new OneBullet();
        Checks.due("law " + text, Checks.law(x, text), -6);
        Checks.due("fault of law " + text, x.fault(), where);
        Checks.due("laws, tape, refused behind " + text, new int[] {x.count(4), x.count(6), x.count(11), x.status()}, 0, 0, 1, -6);
    }

    private static void ordersRead(String text, int run) {
        OneBullet x = Checks.province();
        Checks.due("orders " + text, Checks.orders(x, text), run);
        Checks.due("fault of orders " + text, x.fault(), -1);
    }

    private static void ordersFault(String text, int where) {
        OneBullet x = Checks.province();
        Checks.due("orders " + text, Checks.orders(x, text), -6);
        Checks.due("fault of orders " + text, x.fault(), where);
        Checks.due("day, tape, refused behind " + text, new int[] {x.count(13), x.count(6), x.count(11), x.status()}, 0, 0, 1, -6);
    }

    /** What a SUM is worth, by a price that stands 5000 higher; 7 if it is BROKEN. */
    private static void sum(String sum, int want) {
        OneBullet x = Checks.under("prices 7; prices 5*1000+[" + sum + "]");
        Checks.due("5000+[" + sum + "]", x.at(0, 6), want);
    }

    /** Whether a TEST is so (1), not so (0), BROKEN (2). */
    private static void test(String test, int want) {
        OneBullet x = Checks.under("bars if " + test);
        OneBullet y = Checks.under("bars if not (" + test + ")");
        int so = x.barred(0, 0);
        int notSo = y.barred(0, 0);
        Checks.due("if " + test, so == 1 ? 1 : notSo == 1 ? 0 : 2, want);
    }

    // ---- Promise 15: law. "TOKENS: longest rows of letters a .. z, of digits, single other bytes, any blanks (32) between."

    static void p15_lettersAToZAlone() {
        lawFault("bars`", 4);
        lawFault("bars{", 4);
        lawFault("Bars", 0);
        lawFault("barS", 0);
        lawFault("barsS", 4);
        lawFault("aims Aim", 5);
        lawFault("bars@", 4);
        lawFault("bars" + (char) 225, 4);
        // a and z are letters: "barsa" and "barsz" are words of their own.
        lawFault("barsa", 0);
        lawFault("barsz", 0);
    }

    static void p15_digits0To9Alone() {
        lawFault("aims 9:", 6);
        lawFault("aims 9/", 7);
        lawFault("aims 0.", 6);
        lawReads("aims 0");
        lawReads("aims 9");
        lawReads("aims 190");
    }

    static void p15_longestRows() {
        lawFault("barsif 1=1", 0);
        lawFault("bars ifnot 1=1", 5);
        lawReads("bars if not 1=1");
        lawFault("ba rs", 0);
        lawFault("aims 1 2", 7);
        lawFault("aims 10 00", 8);
        lawFault("bars if 1=1or1=1and1=1or", 24);
        // letters and digits part each other.
        lawReads("aims1if 1=1");
        lawReads("bars if1=1or1=1and1=1");
        lawReads("aims aim");
        lawFault("aimsaim", 0);
    }

    static void p15_blanksAre32Alone() {
        lawReads(" bars");
        lawReads("bars ");
        lawReads("  aims  1  +  2  if  not  (  1  =  1  )  ;  bars  ");
        lawFault("bars\t", 4);
        lawFault("\nbars", 0);
        lawFault("bars ;\rbars", 6);
        lawFault("bars" + (char) 0, 4);
        lawFault("bars" + (char) 31, 4);
        lawFault("bars!", 4);
        lawFault("bars" + (char) 160, 4);
        lawFault("bars" + (char) 255, 4);
    }

    static void p15_blanksAloneFaultAtTheEnd() {
        lawFault(" ", 1);
        lawFault(Checks.times(" ", 399), 399);
        lawFault(Checks.times(" ", 400), 400);
    }

    static void p15_anEmptyTape() {
        lawFault("", 0);
    }

    static void p15_aFullTapeIsRead() {
        lawReads(Checks.times(" ", 396) + "bars");
        lawReads("bars" + Checks.times(" ", 396));
        lawFault(Checks.times(" ", 397) + "bar", 397);
        lawFault(Checks.times(" ", 395) + "bars;", 400);
    }

    static void p15_whatTheTapeHadBeyondItsEndIsNotRead() {
        OneBullet x = new OneBullet();
        Checks.tape(x, "bars if 1 = 1");
        x.end(4);
        Checks.due("bars alone", x.law(), 0);
        Checks.tape(x, "bars bars");
        x.law();
        Checks.tape(x, "bar");
        Checks.due("bar alone", new int[] {x.law(), x.fault()}, -6, 0);
        Checks.tape(x, "aims 12");
        x.end(6);
        x.law();
        x.force(1);
        x.person(0, 0);
        x.place(0, 0, 0);
        Checks.due("1, not 12", x.of(0, 4), 1);
    }

    // "CLAUSE {";" CLAUSE}, 12 at most (FAULT at the 13th's first TOKEN)."

    static void p15_twelveClauses() {
        lawReads(Checks.times("bars;", 11) + "bars");
        lawFault(Checks.times("bars;", 12) + "bars", 60);
        lawFault(Checks.times("bars;", 12) + "  bars", 62);
        lawFault(Checks.times("bars;", 12) + " (", 61);
        lawFault(Checks.times("bars;", 12), 60);
        lawFault(Checks.times("bars;", 12) + "  ", 62);
        // The 12th itself is read to its end first.
        lawFault(Checks.times("bars;", 11) + "bars bars;bars", 60);
    }

    static void p15_theTwelfthClauseCounts() {
        OneBullet x = Checks.under("aims 1;" + Checks.times("aims 2;", 10) + "aims 3");
        Checks.due("the last of twelve", x.of(0, 4), 3);
    }

    static void p15_everyClauseNeedsItsWords() {
        lawFault(";", 0);
        lawFault("bars;", 5);
        lawFault("bars;;bars", 5);
        lawFault(";bars", 0);
        lawFault("bars bars", 5);
        lawFault("aims", 4);
        lawFault("aims;bars", 4);
        lawFault("wears if 1=1", 6);
        lawFault("flattens", 8);
        lawFault("prices ", 7);
        lawFault("bars 1", 5);
        lawFault("bars if", 7);
        lawFault("bars if 1=1 if 1=1", 12);
        lawFault("bars if 1=1 2", 12);
        lawFault("1", 0);
        lawFault("if 1=1", 0);
        lawFault("rest 1", 0);
        lawFault("aims 1 times 2", 7);
    }

    static void p15_faultsWithinTests() {
        lawFault("bars if 1", 9);
        lawFault("bars if 1 1", 10);
        lawFault("bars if 1 =", 11);
        lawFault("bars if = 1", 8);
        lawFault("bars if 1 = 1 = 1", 14);
        lawFault("bars if 1 < > 1", 12);
        lawFault("bars if 1 = 1 or", 16);
        lawFault("bars if 1 = 1 and", 17);
        lawFault("bars if or 1 = 1", 8);
        lawFault("bars if not", 11);
        lawFault("bars if 1 = 1 not 1 = 1", 14);
        lawFault("bars if ()", 9);
        lawFault("bars if (1 = 1", 14);
        lawFault("bars if (1 = 1]", 14);
        lawFault("bars if 1 = 1)", 13);
        lawFault("bars if (1) = 1", 10);
        lawFault("bars if [1 = 1]", 11);
        lawFault("bars if (1 = 1) = 1", 16);
        lawFault("bars if 1 ! 1", 10);
    }

    static void p15_faultsWithinSums() {
        lawFault("aims +", 5);
        lawFault("aims -1", 5);
        lawFault("aims 1+", 7);
        lawFault("aims 1+*1", 7);
        lawFault("aims 1*", 7);
        lawFault("aims 1%%1", 7);
        lawFault("aims (1)", 5);
        lawFault("aims [", 6);
        lawFault("aims []", 6);
        lawFault("aims [1", 7);
        lawFault("aims [1)", 7);
        lawFault("aims 1]", 6);
        lawFault("aims not", 5);
        lawFault("aims if 1=1", 5);
    }

    // "PART: NUMBER (to 1,000)".

    static void p15_numbersTo1000() {
        lawReads("aims 1000");
        lawFault("aims 1001", 5);
        lawFault("aims 10000", 5);
        lawFault("aims 10001", 5);
        lawFault("aims 1000000000000", 5);
        lawFault("aims 9999999999999999999999", 5);
        // 4294967297 and 2147483648 must not wrap round to small ones.
        lawFault("aims 4294967297", 5);
        lawFault("aims 2147483648", 5);
        lawFault("aims 18446744073709551617", 5);
        lawFault("bars if 1000 = 1001", 15);
        lawReads("aims 0");
        OneBullet x = Checks.under("prices 1000");
        Checks.due("1000", x.at(0, 6), 1000);
    }

    static void p15_zerosAheadAreDigits() {
        OneBullet x = Checks.under("prices 0001000; aims 0000000000007");
        Checks.due("1000, 7", new int[] {x.at(0, 6), x.of(0, 4)}, 1000, 7);
        lawFault("aims 0001001", 5);
    }

    static void p15_theElevenWords() {
        for (String w : new String[] {"person", "aim", "place", "kind", "hard", "dents", "weight", "flat", "rust", "day", "mood"}) {
            lawReads("aims " + w);
        }
        for (String w : new String[] {"now", "done", "ended", "hurt", "hurt 1", "people", "p", "aims", "moods", "a", "z", "least", "or"}) {
            lawFault("wears " + w, 6);
        }
        // "dents" of a LAW has no number behind it.
        lawFault("wears dents 0", 12);
    }

    static void p15_wordsAreAsAllIs() {
        OneBullet x = Checks.under("prices person*1000; prices [2+person]*1000+[2+aim]*100+[kind+1]*10+place if person = 0-1 and aim = 0-1");
        Checks.due("of a PLACE person and aim are -1", new int[] {x.at(0, 6), x.at(1, 6), x.at(2, 6)}, 1110, 1121, 1132);
        x = Checks.under("aims 1 if person = 2; aims 2 if person = 0 and aim = 5; aims 3 if place = 2 and kind = 2 and hard = 40; aims 4 if dents = 1");
        Checks.due("person, aim, place, kind, hard", new int[] {x.of(2, 4), x.of(0, 4), x.of(1, 4), x.of(1, 6)}, 1, 2, 0, 3);
        OneBullet y = Checks.under("aims aim / 2");
        Checks.due("aim of each one", new int[] {y.of(0, 4), y.of(1, 4), y.of(2, 4)}, 2, 0, 5);
        x.fire(0, 0);
        Checks.due("dents, of its PLACE alone", new int[] {x.of(1, 4), x.of(1, 5)}, 4, 0);
        x = Checks.under("prices 1 if weight = 999 and flat = 98 and rust = 97 and day = 996 and mood = 9");
        x.put(0, 999);
        x.put(1, 98);
        x.put(2, 97);
        x.terms(0, 996);
        Checks.due("not yet", x.at(0, 6), 0);
        x.terms(4, 9);
        Checks.due("weight, flat, rust, day, mood", x.at(0, 6), 1);
    }

    // "50 PARTS that are NUMBERS and words (FAULT at the 51st)".

    static void p15_fiftyParts() {
        String fifty = "aims 1" + Checks.times("+1", 48) + "+hard";
        lawReads(fifty);
        lawFault(fifty + "+1", fifty.length() + 1);
        lawFault(fifty + "+hard", fifty.length() + 1);
        lawFault(fifty + "+[ [ 1]]", fifty.length() + 5);
        lawFault(fifty + " if 1=1", fifty.length() + 4);
        lawReads(fifty + ";bars");
        lawFault(fifty + ";aims 1", fifty.length() + 6);
        lawFault(fifty + ";bars if mood=1", fifty.length() + 9);
    }

    static void p15_fiftyPartsOfAllClauses() {
        String five = "aims 1+1+1 if 1=1;";
        lawReads(Checks.times(five, 9) + "aims 1+1+1 if 1=1");
        lawFault(Checks.times(five, 10) + "aims 1", 18 * 10 + 5);
        lawReads(Checks.times(five, 9) + "aims 1+1 if 1=1;aims 1");
    }

    static void p15_bracketsAreNoParts() {
        lawReads("aims [1]" + Checks.times("+[1]", 48) + "+[hard]");
        lawReads("bars if (1=1)" + Checks.times(" or (1=1)", 24));
        lawFault("bars if (1=1)" + Checks.times(" or (1=1)", 24) + " or (1=1)", 13 + 24 * 9 + 5);
    }

    static void p15_theTextIsTheLimitNotTheObject() {
        OneBullet x = new OneBullet();
        x.person(0, 0);
        x.place(0, 0, 0);
        for (int k = 0; k < 6; k++) {
            Checks.due("law", Checks.law(x, "aims " + (k + 3) + Checks.times("+0", 49)), k);
            x.force(k);
            Checks.due("what it tells", x.of(0, 4), k + 3);
        }
        for (int k = 1; k < 7; k++) {
            Checks.due("orders, too", new int[] {Checks.orders(x, "rest " + (k + 1) + Checks.times("+0", 49)), x.count(13)}, 1, k * (k + 3) / 2);
        }
    }

    static void p15_aFaultWithinBracketsCountsForNoOtherText() {
        OneBullet x = new OneBullet();
        Checks.due("a fault within eight", Checks.law(x, "aims " + Checks.times("[", 8) + "1"), -6);
        Checks.due("eight", Checks.law(x, "aims " + Checks.times("[", 8) + "1" + Checks.times("]", 8)), 0);
        Checks.due("a fault within eight", Checks.orders(x, "rest 1 if " + Checks.times("(", 8) + "1"), -6);
        Checks.due("eight", Checks.orders(x, "rest 1 if " + Checks.times("(", 8) + "1=1" + Checks.times(")", 8)), 1);
        Checks.due("a fault behind fifty", Checks.orders(x, "rest 1" + Checks.times("+0", 49) + "+"), -6);
        Checks.due("fifty", Checks.orders(x, "rest 1" + Checks.times("+0", 49)), 1);
        Checks.due("a fault in the twelfth", Checks.orders(x, Checks.times("rest 1;", 11) + "rest"), -6);
        Checks.due("twelve", Checks.orders(x, Checks.times("rest 1;", 11) + "rest 1"), 12);
    }

    // "8 brackets of both kinds within one another (FAULT at the 9th) at most."

    static void p15_eightBracketsOfSums() {
        lawReads("aims " + Checks.times("[", 8) + "1" + Checks.times("]", 8));
        lawFault("aims " + Checks.times("[", 9) + "1" + Checks.times("]", 9), 13);
        lawFault("aims " + Checks.times("[ ", 9) + "1" + Checks.times("]", 9), 21);
    }

    static void p15_eightBracketsOfTests() {
        lawReads("bars if " + Checks.times("(", 8) + "1=1" + Checks.times(")", 8));
        lawFault("bars if " + Checks.times("(", 9) + "1=1" + Checks.times(")", 9), 16);
    }

    static void p15_eightBracketsOfBothKinds() {
        lawReads("bars if " + Checks.times("(", 5) + "[[[1]]]=[[[1]]]" + Checks.times(")", 5));
        lawFault("bars if " + Checks.times("(", 5) + "[[[[1]]]]=1" + Checks.times(")", 5), 16);
        lawFault("bars if " + Checks.times("(", 8) + "1=[1]" + Checks.times(")", 8), 18);
        lawReads("bars if " + Checks.times("(", 7) + "1=[1]" + Checks.times(")", 7));
    }

    static void p15_bracketsBesideOneAnotherDoNotCount() {
        String eight = Checks.times("[", 8) + "1" + Checks.times("]", 8);
        lawReads("aims " + eight + "+" + eight + "*" + eight + ";aims " + eight);
        lawReads("bars if (1=1) and (1=1) or (1=1) and (1=1) or (1=1) and (1=1) or (1=1) and (1=1) or (1=1)");
        lawReads("bars if " + Checks.times("(", 8) + "1=1" + Checks.times(")", 8) + " and not " + Checks.times("(", 8) + "1=1" + Checks.times(")", 8));
    }

    static void p15_notHasNoLimitOfItsOwn() {
        // 8 and 97 times 4 signs and 3 more fill 399 of the 400.
        OneBullet x = Checks.under("bars if " + Checks.times("not ", 97) + "1=1");
        Checks.due("97 times not", x.barred(0, 0), 0);
        x = Checks.under("bars if " + Checks.times("not ", 96) + "1=1");
        Checks.due("96 times not", x.barred(0, 0), 1);
    }

    // "Beyond 1,000,000,000 either way, or divided by 0 .., a SUM, a TEST is BROKEN".

    static void p15_to1000000000EitherWay() {
        sum("1000*1000*1000/1000/1000", 6000);
        sum("[1000*1000*1000+1]/1000/1000", 7);
        sum("[1+1000*1000*1000]/1000/1000", 7);
        sum("[0-1000*1000*1000]/1000/1000", 4000);
        sum("[0-1000*1000*1000-1]/1000/1000", 7);
        sum("[0-1-1000*1000*1000]/1000/1000", 7);
        sum("[[0-1000]*1000*1000]/1000/1000", 4000);
        sum("[1000*1000*1000-[0-1]]/1000/1000", 7);
        sum("1000*1000*1000*2/1000/1000", 7);
        sum("0*[1000*1000*1000+1]", 7);
        sum("1000*1000*1000-1000*1000*1000", 5000);
    }

    static void p15_farBeyondDoesNotWrapRound() {
        // 1000 times itself 8 times is beyond 64 bits: 10^24.
        sum("1000" + Checks.times("*1000", 7) + "*0", 7);
        sum("1000*1000*1000*1000*1000*1000", 7);
        // 2^32 and 2^64 wrap round to 0.
        sum("256*256*256*256", 7);
        sum("256*256*256*256*256*256*256*256", 7);
        sum("1000*1000*1000+1000*1000*1000+1000*1000*1000+1000*1000*1000+1000*1000*295", 7);
    }

    static void p15_dividedBy0() {
        sum("7/0", 7);
        sum("7%0", 7);
        sum("0/0", 7);
        sum("0%0", 7);
        sum("7/[3-3]", 7);
        sum("1+7/0*0", 7);
        sum("0/7", 5000);
        sum("0%7", 5000);
    }

    static void p15_cutTowards0AndWhatIsLeftThen() {
        sum("7/2", 5003);
        sum("[0-7]/2", 4997);
        sum("7/[0-2]", 4997);
        sum("[0-7]/[0-2]", 5003);
        sum("7%2", 5001);
        sum("[0-7]%2", 4999);
        sum("7%[0-2]", 5001);
        sum("[0-7]%[0-2]", 4999);
        sum("[0-1]/2", 5000);
        sum("[0-1]%2", 4999);
        sum("1%1", 5000);
        sum("[0-1000*1000*1000]/[0-1]/1000/1000", 6000);
    }

    static void p15_sumsAndTermsFromTheLeft() {
        sum("9-3-2", 5004);
        sum("9-3+2", 5008);
        sum("100/5/2", 5010);
        sum("100/5*2", 5040);
        sum("100%7%2", 5000);
        sum("2+3*4", 5014);
        sum("3*4+2", 5014);
        sum("[2+3]*4", 5020);
        sum("20-2*3-1", 5013);
    }

    static void p15_comparedBothSides() {
        test("1 < 2", 1);
        test("2 < 2", 0);
        test("3 < 2", 0);
        test("1 > 2", 0);
        test("2 > 2", 0);
        test("3 > 2", 1);
        test("1 = 2", 0);
        test("2 = 2", 1);
        test("0 - 1 < 0", 1);
        test("0 - 1 > 0", 0);
        test("1000*1000*1000 > 0 - 1000*1000*1000", 1);
        test("1000*1000*1000 = 1000*1000*1000", 1);
    }

    static void p15_eachThatIsNotSoWithinOrAndAnd() {
        for (String not : new String[] {"2<1", "2<2", "1>2", "2>2", "1=2", "2=1"}) {
            test(not + " or 1=1", 1);
            test(not + " or 1=2", 0);
            test(not + " or 1/0=1", 2);
            test(not + " and 1=1", 0);
            test(not + " and 1/0=1", 0);
            test("1=1 and " + not, 0);
            test("1=2 or " + not, 0);
            test("not " + not, 1);
            test("not not " + not, 0);
        }
        for (String so : new String[] {"1<2", "2>1", "2=2"}) {
            test(so + " or 1=2", 1);
            test(so + " or 1/0=1", 1);
            test(so + " and 1=1", 1);
            test(so + " and 1=2", 0);
            test(so + " and 1/0=1", 2);
            test("1=1 and " + so, 1);
            test("1=2 or " + so, 1);
            test("not " + so, 0);
            test("not not " + so, 1);
        }
    }

    static void p15_aTestOfABrokenSumIsBroken() {
        test("1/0 = 1", 2);
        test("1 = 1/0", 2);
        test("1%0 < 1", 2);
        test("1000*1000*1000+1 > 1", 2);
        test("1000*1000*1000 > 1", 1);
        test("not 1/0 = 1", 2);
        test("(1/0 = 1)", 2);
    }

    // ""or", "and" ask what stands behind only if it can still matter".

    static void p15_orAsksOnlyIfItCanStillMatter() {
        test("1=1 or 1/0=1", 1);
        test("1=2 or 1/0=1", 2);
        test("1/0=1 or 1=1", 2);
        test("1=2 or 1=1 or 1/0=1", 1);
        test("1=1 or 1=2 and 1/0=1", 1);
        test("1=1 or 1/0=1 and 1=1 or 1/0=1", 1);
        test("1=2 or (1=1 or 1/0=1)", 1);
    }

    static void p15_andAsksOnlyIfItCanStillMatter() {
        test("1=2 and 1/0=1", 0);
        test("1=1 and 1/0=1", 2);
        test("1/0=1 and 1=2", 2);
        test("1=1 and 1=2 and 1/0=1", 0);
        test("1=2 and 1/0=1 or 1=1", 1);
        test("1=2 and 1/0=1 or 1=2", 0);
        test("1=2 and (1/0=1 or 1=1)", 0);
        test("not 1=1 and 1/0=1", 0);
    }

    static void p15_andBindsCloserThanOrNotCloserStill() {
        test("1=1 or 1=1 and 1=2", 1);
        test("(1=1 or 1=1) and 1=2", 0);
        test("1=2 and 1=2 or 1=1", 1);
        test("1=2 and (1=2 or 1=1)", 0);
        test("not 1=2 or 1=1", 1);
        test("not (1=2 or 1=1)", 0);
        test("not 1=1 and 1=2", 0);
        test("not (1=1 and 1=2)", 1);
        test("not 1<2 and 1=1", 0);
        test("not 2>1 and 1=1", 0);
        test("not 2=2 and 1=1", 0);
        test("not 2<1 and 1=1", 1);
        test("not 1<2 or 1=2", 0);
        test("not 1>2 or 1=2", 1);
    }

    // "A CLAUSE HOLDS, if its "if" (if it has one) is so, and neither that nor its SUM is BROKEN."

    static void p15_aClauseThatHolds() {
        Checks.due("without if", Checks.under("aims 1").of(0, 4), 1);
        Checks.due("if it is so", Checks.under("aims 1 if 1=1").of(0, 4), 1);
        Checks.due("if it is not", Checks.under("aims 1 if 1=2").of(0, 4), 5);
        Checks.due("if that is broken", Checks.under("aims 1 if 1/0=1").of(0, 4), 5);
        Checks.due("if its sum is broken", Checks.under("aims 1/0 if 1=1").of(0, 4), 5);
        Checks.due("the one ahead holds then", Checks.under("aims 2; aims 1/0").of(0, 4), 2);
    }

    static void p15_theLastThatHolds() {
        OneBullet x = Checks.under("aims 1; aims 2; aims 3 if place = 1; wears 9; aims 4 if 1 = 2");
        Checks.due("2, 3 at the wood", new int[] {x.of(0, 4), x.of(0, 5)}, 2, 3);
    }

    // "0 .. 10 (else the nearest)", "0 .. 99", "0 .. 99", "0 .. 9,999"; what is without.

    static void p15_aims0To10ElseTheNearest() {
        int[] told = {0, 1, 9, 10, 11, 1000};
        int[] aims = {0, 1, 9, 10, 10, 10};
        for (int k = 0; k < told.length; k++) Checks.due("aims " + told[k], Checks.under("aims " + told[k]).of(0, 4), aims[k]);
        Checks.due("below", Checks.under("aims 0-1").of(0, 4), 0);
        Checks.due("far below", Checks.under("aims 0-1000*1000*1000").of(0, 4), 0);
        Checks.due("far beyond", Checks.under("aims 1000*1000*1000").of(0, 4), 10);
        Checks.due("AIM without", Checks.under("bars").of(0, 4), 5);
    }

    static void p15_wears0To99ElseTheNearest() {
        int[] told = {0, 1, 98, 99, 100, 1000};
        int[] wears = {0, 1, 98, 99, 99, 99};
        for (int k = 0; k < told.length; k++) Checks.due("wears " + told[k], Checks.under("wears " + told[k]).at(0, 4), wears[k]);
        Checks.due("below", Checks.under("wears 0-1").at(0, 4), 0);
        Checks.due("HARD by 10 without", Checks.under("bars").at(0, 4), 6);
    }

    static void p15_flattens0To99ElseTheNearest() {
        int[] told = {0, 1, 98, 99, 100, 1000};
        int[] flattens = {0, 1, 98, 99, 99, 99};
        for (int k = 0; k < told.length; k++) Checks.due("flattens " + told[k], Checks.under("flattens " + told[k]).at(0, 5), flattens[k]);
        Checks.due("below", Checks.under("flattens 0-1").at(0, 5), 0);
        Checks.due("HARD by 20 without", Checks.under("bars").at(0, 5), 3);
    }

    static void p15_prices0To9999ElseTheNearest() {
        Checks.due("9998", Checks.under("prices 999*10+8").at(0, 6), 9998);
        Checks.due("9999", Checks.under("prices 999*10+9").at(0, 6), 9999);
        Checks.due("10000", Checks.under("prices 1000*10").at(0, 6), 9999);
        Checks.due("below", Checks.under("prices 0-1").at(0, 6), 0);
        OneBullet x = Checks.under("bars if person = 1");
        x.fire(0, 0);
        Checks.due("DENTS times 10 without", x.at(0, 6), 10);
    }

    static void p15_eachHeadIsAskedOfItsOwn() {
        OneBullet x = Checks.under("aims 1; wears 2; flattens 3; prices 4; bars if person = 1");
        Checks.due("aims, wears, flattens, prices, bars",
            new int[] {x.of(0, 4), x.at(0, 4), x.at(0, 5), x.at(0, 6), x.barred(0, 0), x.barred(1, 0)}, 1, 2, 3, 4, 0, 1);
    }

    // "LAWS, 6 at most". "-5 (ahead of reading it; the TAPE is empty then, too)".

    static void p15_sixLaws() {
        OneBullet x = new OneBullet();
        for (int k = 0; k < 6; k++) Checks.due("law", Checks.law(x, "aims " + k), k);
        Checks.due("the 7th", Checks.law(x, "aims 6"), -5);
        Checks.due("six still, the tape is empty", new int[] {x.count(4), x.count(6), x.count(10)}, 6, 0, 1);
        x.person(0, 0);
        x.place(0, 0, 0);
        x.force(5);
        Checks.due("the last is as it was", x.of(0, 4), 5);
        x.force(0);
        Checks.due("the first, too", x.of(0, 4), 0);
    }

    static void p15_noRoomAheadOfReading() {
        OneBullet x = new OneBullet();
        Checks.law(x, "bars bars");
        for (int k = 0; k < 6; k++) Checks.law(x, "bars");
        Checks.orders(x, "rest rest");
        Checks.due("-5, not -6", new int[] {Checks.law(x, "nonsense"), x.status(), x.fault(), x.count(6)}, -5, -5, 5, 0);
        Checks.due("an empty tape, too", new int[] {x.law(), x.fault()}, -5, 5);
        Checks.due("by -5, by -6", new int[] {x.count(10), x.count(11)}, 2, 2);
    }

    static void p15_aLawThatCanNotBeReadTakesNoNumber() {
        OneBullet x = new OneBullet();
        Checks.due("0, -6, 1", new int[] {Checks.law(x, "bars"), Checks.law(x, "bar"), Checks.law(x, "bars")}, 0, -6, 1);
    }

    static void p15_aLawIsNotInForceByItself() {
        OneBullet x = Checks.province();
        Checks.law(x, "aims 1");
        Checks.due("none", new int[] {x.count(12), x.of(0, 4)}, -1, 5);
    }

    // ---- Promise 16: orders. The limits of both languages again, by the other reader.

    static void p16_emptyOrBlank() {
        ordersFault("", 0);
        ordersFault(" ", 1);
        ordersFault(Checks.times(" ", 400), 400);
    }

    static void p16_twelveClauses() {
        ordersRead(Checks.times("rest 1;", 11) + "rest 1", 12);
        ordersFault(Checks.times("rest 1;", 12) + "rest 1", 84);
        ordersFault(Checks.times("rest 1;", 12) + " fire", 85);
        ordersFault(Checks.times("rest 1;", 12), 84);
    }

    static void p16_everyClauseNeedsItsWords() {
        ordersFault("rest", 4);
        ordersFault("rest;", 4);
        ordersFault("rest 1;", 7);
        ordersFault("fire", 4);
        ordersFault("fire 0", 6);
        ordersFault("fire 0 at", 9);
        ordersFault("fire 0 by 0", 7);
        ordersFault("fire at 0", 5);
        ordersFault("duel 0", 6);
        ordersFault("duel 0 at 0", 7);
        ordersFault("duel 0 by", 9);
        ordersFault("rest 1 at 1", 7);
        ordersFault("rest 1 if", 9);
        ordersFault("rest 1 if 1", 11);
        ordersFault("aims 1", 0);
        ordersFault("bars", 0);
        ordersFault("rest 1 if 1=1 times 2", 14);
        ordersFault("rest 1 times 2 times 2", 15);
    }

    static void p16_allIsReadAheadOfTheFirstThatCanNotBe() {
        ordersFault("rest 0; rest", 12);
        ordersFault("rest 1; fire 9 at 9; rest 1 1", 28);
    }

    static void p16_times1To20() {
        ordersRead("rest 1 times 1", 1);
        ordersRead("rest 1 times 20", 20);
        ordersFault("rest 1 times 0", 13);
        ordersFault("rest 1 times 21", 13);
        ordersFault("rest 1 times 1000", 13);
        ordersFault("rest 1 times 4294967297", 13);
        ordersFault("rest 1 times", 12);
        ordersFault("rest 1 times done", 13);
        ordersFault("rest 1 times [1]", 13);
        ordersFault("rest 1 times 1+1", 14);
        ordersRead("rest 1", 1);
    }

    static void p16_hurt0To9() {
        ordersRead("rest 1 if hurt 0 = 0", 1);
        ordersRead("rest 1 if hurt 9 = 0-1", 1);
        ordersFault("rest hurt 10", 10);
        ordersFault("rest hurt 4294967296", 10);
        ordersFault("rest hurt", 9);
        ordersFault("rest hurt now", 10);
        ordersFault("rest hurt [1]", 10);
        ordersFault("rest hurt 0 0", 12);
    }

    static void p16_dents0To11() {
        ordersRead("rest 1 if dents 0 = 0", 1);
        ordersRead("rest 1 if dents 11 = 0-1", 1);
        ordersFault("rest dents 12", 11);
        ordersFault("rest dents", 10);
        ordersFault("rest dents 4294967296", 11);
        ordersFault("rest dents dents 0", 11);
        ordersFault("rest dents [0]", 11);
    }

    static void p16_numbersTo1000() {
        ordersRead("rest 1000/1000", 1);
        ordersFault("rest 1001/1000", 5);
        ordersFault("rest 10000/1000", 5);
    }

    static void p16_theEightWords() {
        for (String w : new String[] {"now", "weight", "flat", "rust", "done", "ended", "hurt 0", "dents 0"}) {
            ordersRead("rest 1 if " + w + " > 0-2", 1);
        }
        for (String w : new String[] {"person", "aim", "place", "kind", "hard", "day", "mood", "nows", "at", "times"}) {
            ordersFault("rest " + w, 5);
        }
    }

    // "P, W, TIMES aside, NUMBERS and words count as PARTS."

    static void p16_fiftyPartsAndWhatIsNone() {
        String fifty = "rest 1" + Checks.times("+0", 48) + "+hurt 0";
        ordersRead(fifty, 1);
        ordersRead(fifty + " times 3", 3);
        ordersRead("rest 1" + Checks.times("+0", 48) + "+dents 0 times 2", 2);
        ordersFault(fifty + "+0", fifty.length() + 1);
        ordersFault(fifty + "+dents 0", fifty.length() + 1);
        ordersFault(fifty + " if now=0", fifty.length() + 4);
        ordersFault(fifty + ";rest 1", fifty.length() + 6);
        ordersRead("rest 1" + Checks.times("+hurt 0", 49), 1);
    }

    static void p16_fiftyPartsOfBothSums() {
        ordersRead("fire 0" + Checks.times("+0", 24) + " at 0" + Checks.times("+0", 24), 1);
        String text = "fire 0" + Checks.times("+0", 24) + " at 0" + Checks.times("+0", 24);
        ordersFault(text + "+0", text.length() + 1);
    }

    static void p16_eightBrackets() {
        ordersRead("rest [[[[[[[[1]]]]]]]]", 1);
        ordersFault("rest [[[[[[[[[1]]]]]]]]]", 13);
        ordersRead("rest 1 if ((((((((0=0))))))))", 1);
        ordersFault("rest 1 if ((((((((( 0=0)))))))))", 18);
    }

    // "each time its "if" is asked (not run, if it is not so or BROKEN), then its SUMS from the left."

    static void p16_notRunIfNotSoOrBroken() {
        ordersRead("rest 1 if 1=2", 0);
        ordersRead("rest 1 if 1/0=1", 0);
        ordersRead("rest 1 if 1000*1000*1000+1>0", 0);
        ordersRead("rest 1/0 if 1=2", 0);
        ordersRead("rest 0 if 1/0=1", 0);
        ordersRead("fire 9 at 9 if 1=2; duel 9 by 9 if 1=2; rest 1", 1);
    }

    static void p16_ifIsAskedEachTime() {
        OneBullet x = Checks.province();
        Checks.due("till it is not so", new int[] {Checks.orders(x, "rest 1 times 20 if now < 5"), x.count(13)}, 5, 5);
        Checks.due("from when it is so", new int[] {Checks.orders(x, "rest 1; rest 1 times 20 if now > 5"), x.count(13)}, 21, 26);
        Checks.due("its sum, too", new int[] {Checks.orders(x, "rest 1+done times 4"), x.count(13)}, 4, 36);
    }

    static void p16_wordsOfOrders() {
        OneBullet x = Checks.province();
        x.put(1, 7);
        x.put(2, 8);
        x.put(0, 55);
        x.terms(0, 9);
        Checks.due("weight, flat, rust, now", Checks.orders(x, "rest 1 if weight=55 and flat=7 and rust=8 and now=9"), 1);
        Checks.due("behind it", Checks.orders(x, "rest 1 if weight=55 and flat=7 and rust=9 and now=10"), 1);
        Checks.due("done is 0 ahead of the first", Checks.orders(x, "rest 1 if done=0; rest 1 if done=1; rest 1 if done=1; rest 1 if done=2"), 3);
        Checks.due("done is of this TEXT alone", Checks.orders(x, "rest 1 if done=0"), 1);
    }

    static void p16_endedIsMinus1WithoutADuelInThisText() {
        OneBullet x = Checks.province();
        for (int k = 0; k < 3; k++) x.quarrel(2, 1, 0, 0);
        x.duel(0, 0);
        x.terms(0, 100);
        Checks.due("none in it", Checks.orders(x, "rest 1 if ended=0-1"), 1);
        x.terms(0, 200);
        Checks.due("1", Checks.orders(x, "duel 0 by 0; rest 9 if ended=1; rest 9 if ended=0-1; duel 0 by 0; rest 1 if ended=1"), 4);
        Checks.due("none in the next", Checks.orders(x, "rest 1 if ended=0-1"), 1);
    }

    static void p16_endedIsTheLatest() {
        OneBullet x = Checks.province();
        x.person(0, 0);
        x.quarrel(1, 3, 1, 0);
        x.quarrel(2, 0, 1, 0);
        x.quarrel(1, 2, 1, 0);
        x.quarrel(1, 3, 2, 0);
        // Nobody is hit; the second is; the first is; it goes into the lake.
        Checks.due("0, 1, 2, 3", Checks.orders(x, "duel 0 by 0; rest 1 if ended=0; duel 0 by 0; rest 1 if ended=1; duel 0 by 0; rest 7 if ended=2;"
            + "duel 0 by 0; rest 1 if ended=3"), 8);
    }

    static void p16_endedStaysWhenOthersAreRun() {
        OneBullet x = Checks.province();
        x.person(0, 0);
        x.quarrel(2, 1, 0, 0);
        x.quarrel(3, 1, 1, 0);
        Checks.due("1 behind a shot and a rest", Checks.orders(x, "duel 0 by 0; fire 0 at 0; rest 5; rest 7 if ended = 1"), 4);
        Checks.due("0 behind a shot", Checks.orders(x, "duel 0 by 0; fire 0 at 0; rest 1 if ended = 0; rest 1; rest 1 if ended = 0"), 5);
    }

    static void p16_shotsAndDuelsWithIf() {
        OneBullet x = Checks.province();
        x.quarrel(2, 1, 0, 0);
        Checks.due("a shot, if it is so", new int[] {Checks.orders(x, "fire 0 at 0 if weight = 100"), x.bullet(0)}, 1, 94);
        Checks.due("a shot, if it is not", new int[] {Checks.orders(x, "fire 0 at 0 if weight = 100"), x.bullet(0)}, 0, 94);
        Checks.due("as often as it is so", new int[] {Checks.orders(x, "fire 0 at 1 times 9 if dents 1 < 3"), x.at(1, 3)}, 3, 3);
        Checks.due("a duel, if it is not", new int[] {Checks.orders(x, "duel 0 by 0 if 1 = 2"), x.count(2)}, 0, 1);
        Checks.due("a duel, if it is so", new int[] {Checks.orders(x, "duel 0 by 0 times 1 if not 1 = 2"), x.count(2)}, 1, 0);
    }

    static void p16_hurtAndDentsOfEachOne() {
        OneBullet x = new OneBullet();
        for (int k = 0; k < 12; k++) {
            Checks.due("no PLACE " + k, Checks.orders(x, "rest 1 if dents " + k + " = 0-1"), 1);
            x.place(3, 0, 0);
            Checks.due("PLACE " + k, Checks.orders(x, "rest 1 if dents " + k + " = 0"), 1);
        }
        for (int k = 0; k < 10; k++) {
            Checks.due("no PERSON " + k, Checks.orders(x, "rest 1 if hurt " + k + " = 0-1"), 1);
            x.person(10, 0);
            Checks.due("PERSON " + k, Checks.orders(x, "rest 1 if hurt " + k + " = 0"), 1);
        }
        for (int k = 0; k < 12; k++) {
            x.fire(0, k);
            Checks.due("a dent of " + k, Checks.orders(x, "rest 1 if dents " + k + " = 1"), 1);
        }
        x.terms(0, 0);
        for (int k = 0; k < 10; k++) {
            x.quarrel((k + 1) % 10, k, 0, 0);
            Checks.due("hurt of " + k, Checks.orders(x, "duel 0 by 0; rest 10 if hurt " + k + " = 7+now"), 2);
        }
    }

    static void p16_hurtAndDentsOfNoSuch() {
        OneBullet x = Checks.province();
        Checks.due("there", Checks.orders(x, "rest 1 if hurt 2 = 0 and dents 2 = 0"), 1);
        Checks.due("not there", Checks.orders(x, "rest 1 if hurt 3 = 0-1 and dents 3 = 0-1"), 1);
        x.person(0, 0);
        x.place(0, 0, 0);
        Checks.due("there now", Checks.orders(x, "rest 1 if hurt 3 = 0 and dents 3 = 0"), 1);
        x.quarrel(2, 3, 0, 0);
        Checks.due("the DAY till which", Checks.orders(x, "duel 0 by 0; rest 1 if hurt 3 = now+7; fire 0 at 3; rest 1 if dents 3 = 1"), 4);
        x.terms(0, 500);
        Checks.due("told when it is over, too", Checks.orders(x, "rest 1 if hurt 3 > 0 and hurt 3 < now"), 1);
    }

    // "One that can't be (a BROKEN SUM, as fire(), duel(), rest() are REFUSED) ends it: all is as it was ahead of it."

    private static void stops(String text, int clause) {
        OneBullet x = Checks.under("bars if person = 1 and place = 1");
        x.quarrel(2, 0, 0, 0);
        x.quarrel(0, 1, 1, 0);
        x.rest(4);
        x.fire(0, 0);
        int[] before = Checks.picture(x);
        Checks.due(text, Checks.orders(x, text), -3);
        Checks.due("status, stopped, fault, by -1, -2, -3 of " + text,
            new int[] {x.status(), x.stopped(), x.fault(), x.count(7), x.count(8), x.count(9)}, -3, clause, -1, 0, 0, 1);
        // Only where it stopped is new: a TEXT that could be run sets that back.
        Checks.orders(x, "rest 1 if 1=2");
        Checks.same("all behind " + text, x, before);
        Checks.due("undone behind " + text, new int[] {x.undo(), x.undo(), x.count(13), x.bullet(0)}, 0, 2, 0, 100);
    }

    static void p16_aBrokenSumEndsIt() {
        stops("rest 1/0", 0);
        stops("rest 1; rest 1000*1000*1000+1", 1);
        stops("fire 1/0 at 0", 0);
        stops("fire 0 at 1/0", 0);
        stops("duel 1/0 by 0", 0);
        stops("duel 0 by 1/0", 0);
    }

    static void p16_aRestThatIsRefusedEndsIt() {
        stops("rest 0", 0);
        stops("rest 100", 0);
        stops("rest 0-1", 0);
        stops("rest 99; rest 1; rest 100; rest 1", 2);
        ordersRead("rest 1; rest 99", 2);
    }

    static void p16_aFireThatIsRefusedEndsIt() {
        stops("fire 3 at 0", 0);
        stops("fire 0 at 3", 0);
        stops("fire 0-1 at 0", 0);
        stops("fire 0 at 0-1", 0);
        stops("fire 1 at 1", 0);
        stops("fire 0 at 2; fire 0 at 0", 1);
        stops("duel 0 by 0; fire 0 at 0", 1);
        stops("fire 0 at 0 times 20", 0);
    }

    static void p16_aDuelThatIsRefusedEndsIt() {
        stops("duel 2 by 0", 0);
        stops("duel 0-1 by 0", 0);
        stops("duel 0 by 0-1", 0);
        stops("duel 0 by 1000*1000+1", 0);
        stops("duel 1 by 0", 0);
        stops("rest 1; fire 2 at 2; duel 0 by 0", 2);
        OneBullet x = Checks.province();
        x.quarrel(2, 0, 0, 0);
        Checks.due("the highest SEED", Checks.orders(x, "duel 0 by 1000*1000"), 1);
    }

    static void p16_allIsAsItWasWithSixteenToUndo() {
        OneBullet x = Checks.province();
        for (int k = 0; k < 16; k++) x.rest(k + 1);
        int day = x.count(13);
        Checks.due("-3", Checks.orders(x, "fire 0 at 0 times 9; rest 0"), -3);
        Checks.due("sixteen still", x.count(5), 16);
        for (int k = 15; k >= 0; k--) {
            Checks.due("undone", x.undo(), 2);
            day -= k + 1;
            Checks.due("day", x.count(13), day);
        }
        Checks.due("none", x.undo(), -3);
    }

    static void p16_eachThatWasRunCanBeUndone() {
        OneBullet x = Checks.province();
        x.quarrel(2, 0, 0, 0);
        Checks.orders(x, "rest 1; fire 0 at 0; duel 0 by 0");
        Checks.due("three", x.count(5), 3);
        Checks.due("duel, fire, rest, none", new int[] {x.undo(), x.undo(), x.undo(), x.undo()}, 1, 0, 2, -3);
    }

    static void p16_240AtMostAreRun() {
        OneBullet x = new OneBullet();
        x.place(0, 0, 0);
        x.person(0, 0);
        Checks.due("12 by 20", Checks.orders(x, Checks.times("fire 0 at 0 times 20;", 11) + "fire 0 at 0 times 20"), 240);
        Checks.due("dents, shots, undo", new int[] {x.at(0, 3), x.count(3), x.count(5), x.at(0, 6)}, 240, 24, 16, 2400);
    }

    // ---- Promise 17: fault. "the latest law(), orders() that read a TEXT: its place; NONE without."

    static void p17_noneAheadOfAnyAndWithout() {
        OneBullet x = new OneBullet();
        Checks.due("ahead of any", x.fault(), -1);
        Checks.law(x, "bars bars");
        Checks.due("5", x.fault(), 5);
        Checks.law(x, "bars");
        Checks.due("without", x.fault(), -1);
        Checks.orders(x, "rest");
        Checks.due("of orders", x.fault(), 4);
        Checks.orders(x, "rest 0");
        Checks.due("orders that can't be could be read", x.fault(), -1);
    }

    static void p17_0IsAPlaceToo() {
        OneBullet x = new OneBullet();
        x.law();
        Checks.due("of an empty TEXT", x.fault(), 0);
        Checks.orders(x, "rest 1");
        x.orders();
        Checks.due("of empty orders", x.fault(), 0);
    }

    static void p17_whatReadsNoTextLeavesIt() {
        OneBullet x = new OneBullet();
        for (int k = 0; k < 6; k++) Checks.law(x, "bars");
        Checks.orders(x, "rest rest");
        Checks.law(x, "bars");
        Checks.tape(x, "bars");
        x.row();
        x.row();
        x.end(0);
        x.force(0);
        x.image(0);
        x.back(0);
        Checks.due("5 still", x.fault(), 5);
    }

    // ---- Promise 18: stopped. "Which CLAUSE of the latest orders() could not be. NONE."

    static void p18_noneAheadOfAnyAndWithout() {
        OneBullet x = new OneBullet();
        Checks.due("ahead of any", x.stopped(), -1);
        Checks.orders(x, "rest 0");
        Checks.due("the first", x.stopped(), 0);
        Checks.orders(x, "rest 1");
        Checks.due("without", x.stopped(), -1);
    }

    static void p18_theTwelfth() {
        OneBullet x = new OneBullet();
        Checks.due("-3", Checks.orders(x, Checks.times("rest 1;", 11) + "rest 0"), -3);
        Checks.due("11", x.stopped(), 11);
    }

    static void p18_notAtTheFirstTimeOfAClause() {
        OneBullet x = new OneBullet();
        Checks.due("-3", Checks.orders(x, "rest 1; rest 3-done times 20"), -3);
        Checks.due("1", x.stopped(), 1);
    }

    static void p18_ordersThatCanNotBeReadStopNowhere() {
        OneBullet x = new OneBullet();
        Checks.orders(x, "rest 1; rest 0");
        Checks.orders(x, "rest 1; rest");
        Checks.due("none of the latest", x.stopped(), -1);
    }

    static void p18_lawLeavesIt() {
        OneBullet x = new OneBullet();
        Checks.orders(x, "rest 1; rest 0");
        Checks.law(x, "bars");
        Checks.law(x, "bar");
        x.rest(0);
        Checks.due("1 still", x.stopped(), 1);
    }

    // ---- Promise 19: force. "A LAW is in FORCE (NONE: none): which was. -2."

    static void p19_noSuchLaw() {
        OneBullet x = new OneBullet();
        Checks.due("without laws", new int[] {x.force(0), x.status()}, -2, -2);
        Checks.due("NONE, it was none", new int[] {x.force(-1), x.status()}, -1, 0);
        Checks.law(x, "bars");
        Checks.due("0", new int[] {x.force(0), x.status()}, -1, 0);
        Checks.due("1, -2, far", new int[] {x.force(1), x.force(-2), x.force(Integer.MAX_VALUE), x.force(Integer.MIN_VALUE)}, -2, -2, -2, -2);
        Checks.due("0 still", x.count(12), 0);
        Checks.due("by -1, by -2", new int[] {x.count(7), x.count(8)}, 0, 5);
    }

    static void p19_theLastOfSix() {
        OneBullet x = Checks.province();
        for (int k = 0; k < 6; k++) Checks.law(x, "aims " + k);
        Checks.due("5, it was none", new int[] {x.force(5), x.of(2, 4)}, -1, 5);
        Checks.due("6", new int[] {x.force(6), x.count(12)}, -2, 5);
        Checks.due("0, it was 5", new int[] {x.force(0), x.of(2, 4)}, 5, 0);
        Checks.due("NONE, it was 0", new int[] {x.force(-1), x.of(2, 4)}, 0, 10);
    }

    // ---- Promise 20: barred. "(1, 0). NONE."

    static void p20_noSuchPersonOrPlace() {
        OneBullet x = Checks.under("bars");
        Checks.due("the last that are there", x.barred(2, 2), 1);
        Checks.due("people 3, -1, far", new int[] {x.barred(3, 0), x.barred(-1, 0), x.barred(Integer.MAX_VALUE, 0)}, -1, -1, -1);
        Checks.due("places 3, -1, far", new int[] {x.barred(0, 3), x.barred(0, -1), x.barred(0, Integer.MAX_VALUE)}, -1, -1, -1);
        Checks.due("is no refusal", x.count(8), 0);
    }

    static void p20_otherNumbersOfPeopleThanOfPlaces() {
        OneBullet x = Checks.under("bars");
        x.place(0, 0, 0);
        Checks.due("PLACE 3 is there, PERSON 3 is not", new int[] {x.barred(2, 3), x.barred(3, 2), x.barred(3, 3)}, 1, -1, -1);
        OneBullet y = Checks.under("bars");
        y.person(0, 0);
        Checks.due("PERSON 3 is there, PLACE 3 is not", new int[] {y.barred(3, 2), y.barred(2, 3), y.barred(3, 3)}, 1, -1, -1);
    }

    static void p20_ifAnyBarsHolds() {
        OneBullet x = Checks.under("bars if person = 0; bars if person = 1 and 1/0 = 1; bars if place = 1");
        Checks.due("the first of three", x.barred(0, 0), 1);
        Checks.due("broken", x.barred(1, 0), 0);
        Checks.due("the last of three", x.barred(1, 1), 1);
        Checks.due("none", x.barred(2, 0), 0);
        x.force(-1);
        Checks.due("no law", x.barred(0, 0), 0);
    }

    static void p20_byTheBulletAsItIs() {
        OneBullet x = Checks.under("bars if weight < 100");
        Checks.due("100", x.barred(0, 0), 0);
        x.put(0, 99);
        Checks.due("99", x.barred(0, 0), 1);
    }

    public static void main(String[] args) throws Exception {
        Checks.runAll(TextEdgeTest.class, 15, 16, 17, 18, 19, 20);
    }
}
