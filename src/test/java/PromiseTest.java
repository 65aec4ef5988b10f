/** Each promise of the document by hand: ordinary inputs, the edges that it names, wrong inputs. */
public final class PromiseTest {
    private static int promise = 0;
    private static int asked = 0;
    private static int wrong = 0;

    private static void due(String what, int got, int want) {
        asked++;
        if (got != want) {
            wrong++;
            System.out.println("promise " + promise + ": " + what + " answered " + got + ", due is " + want);
        }
    }

    /** Feeds a text, and ends the tape behind it. */
    private static void tape(OneBullet x, String text) {
        for (int from = 0; from < text.length(); from += 20) {
            int[] v = new int[5];
            for (int k = 0; k < 20; k++) {
                v[k / 4] = v[k / 4] << 8 | (from + k < text.length() ? text.charAt(from + k) & 255 : ' ');
            }
            x.feed(v[0], v[1], v[2], v[3], v[4]);
        }
        x.end(text.length());
    }

    private static int law(OneBullet x, String text) {
        tape(x, text);
        return x.law();
    }

    private static int orders(OneBullet x, String text) {
        tape(x, text);
        return x.orders();
    }

    /** A wall, a wood, a lake; 5 of court 0, 0 of court 1, 10 of court 1. */
    private static OneBullet province() {
        OneBullet x = new OneBullet();
        x.place(0, 60, 3);
        x.place(1, 20, 5);
        x.place(2, 40, 7);
        x.person(5, 0);
        x.person(0, 1);
        x.person(10, 1);
        return x;
    }

    private static OneBullet under(String text) {
        OneBullet x = province();
        due("law " + text, law(x, text), 0);
        x.force(0);
        return x;
    }

    private static void lawFault(String text, int where) {
        OneBullet x = new OneBullet();
        due("law " + text, law(x, text), -6);
        due("fault of law " + text, x.fault(), where);
        due("laws behind " + text, x.count(4), 0);
        due("tape behind " + text, x.count(6), 0);
    }

    private static void ordersFault(String text, int where) {
        OneBullet x = province();
        due("orders " + text, orders(x, text), -6);
        due("fault of orders " + text, x.fault(), where);
        due("day behind " + text, x.count(13), 0);
        due("stopped behind " + text, x.stopped(), -1);
    }

    /** What a SUM is worth, by a price of 5000 more (0 .. 9,999); 7 if it is BROKEN. */
    private static void price(String sum, int want) {
        OneBullet x = under("prices 7; prices 5*1000+" + sum);
        due("price 5000+" + sum, x.at(0, 6), want);
    }

    private static void test(String test, int want) {
        OneBullet x = under("bars if " + test);
        due("bars if " + test, x.barred(0, 0), want);
    }

    private static void newObject() {
        promise = 1;
        OneBullet x = new OneBullet();
        due("NONE", OneBullet.NONE, -1);
        int[] bullet = {100, 0, 0, 0, 1, -1};
        for (int k = 0; k < bullet.length; k++) due("bullet " + k, x.bullet(k), bullet[k]);
        int[] counts = {0, 0, 0, 0, 0, 0, 0, 0, 0, 0, 0, 0, -1, 0, 2, 20, 1, 0, 0, 0};
        for (int k = 0; k < counts.length; k++) due("count " + k, x.count(k), counts[k]);
        due("status", x.status(), 0);
        due("fault", x.fault(), -1);
        due("stopped", x.stopped(), -1);
        due("chips", x.chips(), 0);
        due("drawn", x.drawn(0), -1);
    }

    private static void putAndBullet() {
        promise = 2;
        OneBullet x = province();
        due("weight", x.put(0, 999), 100);
        due("weight again", x.put(0, 0), 999);
        due("flat", x.put(1, 99), 0);
        due("rust", x.put(2, 99), 0);
        due("flat again", x.put(1, 0), 99);
        due("too heavy", x.put(0, 1000), -1);
        due("below 0", x.put(0, -1), -1);
        due("too flat", x.put(1, 100), -1);
        due("too much rust", x.put(2, 100), -1);
        due("no such what", x.put(3, 0), -1);
        due("no such what below", x.put(-1, 0), -1);
        due("refused", x.count(7), 6);
        promise = 3;
        due("weight", x.bullet(0), 0);
        due("flat", x.bullet(1), 0);
        due("rust", x.bullet(2), 99);
        due("too light", x.bullet(4), 0);
        x.put(0, 19);
        due("below least", x.bullet(4), 0);
        x.put(0, 20);
        due("least", x.bullet(4), 1);
        due("no shot", x.bullet(5), -1);
        x.fire(0, 1);
        due("latest shot", x.bullet(5), 1);
        x.put(0, 50);
        x.fire(0, 2);
        due("latest shot into the lake", x.bullet(5), 2);
        due("lost", x.bullet(3), 1);
        due("can't be fired", x.bullet(4), 0);
        due("6", x.bullet(6), -1);
        due("-1", x.bullet(-1), -1);
    }

    private static void places() {
        promise = 4;
        OneBullet x = new OneBullet();
        due("first", x.place(3, 99, 20), 0);
        due("kind", x.place(4, 0, 0), -1);
        due("kind below", x.place(-1, 0, 0), -1);
        due("hard", x.place(0, 100, 0), -1);
        due("hard below", x.place(0, -1, 0), -1);
        due("deep", x.place(0, 0, 21), -1);
        due("deep below", x.place(0, 0, -1), -1);
        for (int k = 1; k < 12; k++) due("place", x.place(0, k, 0), k);
        due("no room", x.place(0, 0, 0), -5);
        due("wrong ahead of no room", x.place(4, 0, 0), -1);
        due("count", x.count(0), 12);
        promise = 5;
        int[] first = {3, 99, 20, 0, 9, 4, 0};
        for (int k = 0; k < first.length; k++) due("at " + k, x.at(0, k), first[k]);
        due("7", x.at(0, 7), -1);
        due("-1", x.at(0, -1), -1);
        due("no place", x.at(12, 0), -1);
        due("place -1", x.at(-1, 0), -1);
        OneBullet y = under("wears 100 if place = 0; flattens 0-5 if place = 0; prices 1000*1000 if place = 1; prices 0-1 if place = 0");
        due("wears at most", y.at(0, 4), 99);
        due("flattens at least", y.at(0, 5), 0);
        due("worth at most", y.at(1, 6), 9999);
        due("worth at least", y.at(0, 6), 0);
        due("wears without", y.at(1, 4), 2);
        due("flattens without", y.at(1, 5), 1);
        y.fire(0, 2);
        due("worth without", y.at(2, 6), 10);
        OneBullet z = under("wears person; flattens aim+8; prices 0-person-aim");
        due("person -1", z.at(0, 4), 0);
        due("aim -1", z.at(0, 5), 7);
        due("both", z.at(0, 6), 2);
    }

    private static void people() {
        promise = 6;
        OneBullet x = new OneBullet();
        due("first", x.person(10, 1), 0);
        due("aim", x.person(11, 0), -1);
        due("aim below", x.person(-1, 0), -1);
        due("court", x.person(0, 2), -1);
        due("court below", x.person(0, -1), -1);
        for (int k = 1; k < 10; k++) due("person", x.person(k, 0), k);
        due("no room", x.person(0, 0), -5);
        due("wrong ahead of no room", x.person(0, 2), -1);
        promise = 7;
        due("aim", x.of(0, 0), 10);
        due("court", x.of(0, 1), 1);
        due("hurt till", x.of(0, 2), 0);
        due("hurt", x.of(0, 3), 0);
        due("no place", x.of(0, 4), -1);
        due("-1", x.of(0, -1), -1);
        due("no person", x.of(10, 0), -1);
        due("person -1", x.of(-1, 0), -1);
        x.place(0, 50, 0);
        due("aims", x.of(0, 4), 10);
        due("next place", x.of(0, 5), -1);
        due("far", x.of(0, Integer.MAX_VALUE), -1);
        OneBullet y = under("aims 99; aims aim-7 if person = 0; aims 3 if person = 2 and place = 1; aims 4/0 if person = 2");
        due("at most", y.of(1, 4), 10);
        due("at least", y.of(0, 4), 0);
        due("the last that holds", y.of(2, 5), 3);
        due("elsewhere", y.of(2, 4), 10);
        OneBullet z = province();
        z.terms(0, 5);
        z.quarrel(2, 0, 0, 9);
        z.duel(0, 0);
        due("hurt till", z.of(0, 2), 12);
        due("hurt", z.of(0, 3), 1);
        z.terms(0, 11);
        due("hurt on the last day", z.of(0, 3), 1);
        z.terms(0, 12);
        due("well", z.of(0, 3), 0);
        due("still told", z.of(0, 2), 12);
    }

    private static void quarrels() {
        promise = 8;
        OneBullet x = province();
        due("due", x.quarrel(0, 1, 0, 1000), -1);
        due("due below", x.quarrel(0, 1, 0, -1), -1);
        due("alike", x.quarrel(1, 1, 0, 0), -1);
        due("alike and not there", x.quarrel(9, 9, 0, 0), -1);
        due("no first", x.quarrel(3, 1, 0, 0), -2);
        due("no second", x.quarrel(0, -1, 0, 0), -2);
        due("no place", x.quarrel(0, 1, 3, 0), -2);
        due("wrong ahead of missing", x.quarrel(0, 3, 0, 1000), -1);
        for (int k = 0; k < 7; k++) due("quarrel", x.quarrel(k % 2, 2, k % 3, 993 + k), k);
        due("no room", x.quarrel(0, 1, 0, 0), -5);
        due("missing ahead of no room", x.quarrel(0, 1, 3, 0), -2);
        promise = 9;
        due("first", x.about(1, 0), 1);
        due("second", x.about(1, 1), 2);
        due("place", x.about(5, 2), 2);
        due("due", x.about(6, 3), 999);
        due("can be had", x.about(0, 4), 1);
        due("5", x.about(0, 5), -1);
        due("-1", x.about(0, -1), -1);
        due("no quarrel", x.about(7, 0), -1);
        due("quarrel -1", x.about(-1, 0), -1);
        law(x, "bars if person = 2 and place = 0");
        x.force(0);
        due("the second is barred", x.about(0, 4), 0);
        due("not there", x.about(1, 4), 1);
        x.force(-1);
        x.put(0, 19);
        due("too light", x.about(0, 4), 0);
        x.put(0, 20);
        due("not too light", x.about(0, 4), 1);
        x.terms(2, 21);
        due("lighter than LEAST", x.about(0, 4), 0);
        x.terms(2, 20);
        x.fire(0, 2);
        due("lost", x.about(0, 4), 0);
        x.undo();
        due("found again", x.about(0, 4), 1);
    }

    private static void terms() {
        promise = 10;
        OneBullet x = new OneBullet();
        int[] at = {0, 2, 20, 1, 0};
        int[] least = {0, 1, 1, 1, 0};
        int[] most = {999, 4, 99, 9, 9};
        for (int k = 0; k < 5; k++) {
            due("was " + k, x.terms(k, most[k]), at[k]);
            due("more " + k, x.terms(k, most[k] + 1), -1);
            due("less " + k, x.terms(k, least[k] - 1), -1);
            due("most " + k, x.terms(k, least[k]), most[k]);
            due("least " + k, x.count(13 + k), least[k]);
        }
        due("5", x.terms(5, 1), -1);
        due("-1", x.terms(-1, 1), -1);
    }

    private static void tapes() {
        promise = 11;
        OneBullet x = new OneBullet();
        for (int k = 1; k <= 20; k++) due("feed", x.feed(k, -1, 0, Integer.MIN_VALUE, 5), 20 * k);
        due("full", x.feed(0, 0, 0, 0, 0), -1);
        due("bytes", x.count(6), 400);
        promise = 12;
        due("too many", x.end(401), -1);
        due("below", x.end(-1), -1);
        due("all", x.end(400), 400);
        due("fewer", x.end(381), 381);
        due("no room for twenty", x.feed(0, 0, 0, 0, 0), -1);
        due("380", x.end(380), 380);
        due("room", x.feed(0, 0, 0, 0, 0), 400);
        due("0", x.end(0), 0);
        due("1 of 0", x.end(1), -1);
        due("not a refusal", x.count(7), 0);
        promise = 13;
        due("empty", x.row(), -6);
        x.feed(0x00633214, 0x03010201, 0x64000100, 0x15FF0000, 0x02000003);
        x.end(19);
        // 0 99 50: DEEP 50 can't be; 20 3 1: KIND; 2 1 100: DEEP; 0 1 0: there; 21 255 0: KIND; 0 2 0: there; 0.
        due("row", x.row(), 2);
        promise = 14;
        due("chips", x.chips(), 5);
        promise = 13;
        due("first hard", x.at(0, 1), 1);
        due("second hard", x.at(1, 1), 2);
        due("second deep", x.at(1, 2), 0);
        due("tape", x.count(6), 0);
        due("empty again", x.row(), -6);
        promise = 14;
        due("chips of the latest that was not refused", x.chips(), 5);
        promise = 13;
        for (int k = 0; k < 9; k++) x.place(0, 0, 0);
        x.feed(0x03010203, 0x01020301, 0x02030102, 0, 0);
        x.end(12);
        due("room for one", x.row(), 1);
        promise = 14;
        due("no room", x.chips(), 3);
        promise = 13;
        due("kind", x.at(11, 0), 3);
        x.feed(0, 0, 0, 0, 0);
        x.end(2);
        due("none", x.row(), 0);
        due("status", x.status(), 0);
        promise = 14;
        due("torn", x.chips(), 1);
    }

    private static void laws() {
        promise = 15;
        OneBullet x = new OneBullet();
        for (int k = 0; k < 6; k++) due("law", law(x, "bars"), k);
        tape(x, "nonsense");
        due("no room", x.law(), -5);
        due("tape", x.count(6), 0);
        due("fault stays", x.fault(), -1);
        due("no room ahead of an empty tape", x.law(), -5);
        due("words", law(under("bars"), "aims person+aim+place+kind+hard+dents+weight+flat+rust+day+mood"), 1);
        due("no blanks", law(new OneBullet(), "aims1if not(1<2or[3]>4)and weight=5;bars"), 0);
        due("blanks", law(new OneBullet(), "   aims   1   if   1   <   2   "), 0);
        lawFault("", 0);
        lawFault("    ", 4);
        lawFault("aims", 4);
        lawFault("aims  ", 6);
        lawFault("aim 1", 0);
        lawFault("fire 1 at 1", 0);
        lawFault("aims 1001", 5);
        lawFault("aims 99999999999999999999", 5);
        lawFault("bars 1", 5);
        lawFault("bars bars", 5);
        lawFault("bars;", 5);
        lawFault("bars;;bars", 5);
        lawFault("; bars", 0);
        lawFault("aims (1)", 5);
        lawFault("aims 1 + + 1", 9);
        lawFault("aims -1", 5);
        lawFault("aims [1", 7);
        lawFault("aims [1)", 7);
        lawFault("bars if 1", 9);
        lawFault("bars if 1 < 2 < 3", 14);
        lawFault("bars if not", 11);
        lawFault("bars if (1 < 2", 14);
        lawFault("bars if (1 < 2]", 14);
        lawFault("bars if [1] < 2 xor 1 = 1", 16);
        lawFault("bars if 1 < 2 if 1 < 2", 14);
        lawFault("aims now", 5);
        lawFault("aims Aim", 5);
        lawFault("aims\t1", 4);
        lawFault("aims 1 times 2", 7);
        lawFault("aimsaim", 0);
        lawFault("aimsz", 0);
        lawFault("aims 10000", 5);
        lawFault("aims 1;zzz", 7);
        due("leading zeros", law(new OneBullet(), "aims 0001000"), 0);
        String twelve = "bars;bars;bars;bars;bars;bars;bars;bars;bars;bars;bars;bars";
        due("twelve", law(new OneBullet(), twelve), 0);
        lawFault(twelve + ";", 60);
        lawFault(twelve + "; bars", 61);
        lawFault(twelve + ";  nonsense", 62);
        limits();
    }

    private static void limits() {
        StringBuilder fifty = new StringBuilder("aims 1");
        for (int k = 1; k < 49; k++) fifty.append("+1");
        due("fifty", law(new OneBullet(), fifty + "+hard"), 0);
        lawFault(fifty + "+hard+ 7", fifty.length() + 7);
        lawFault(fifty + "+hard+[ 7", fifty.length() + 8);
        lawFault(fifty + "+hard;wears 1", fifty.length() + 12);
        due("fifty in two", law(new OneBullet(), fifty + ";wears 1"), 0);
        due("eight brackets", law(new OneBullet(), "aims [[[[[[[[1]]]]]]]]+[[[[[[[[1]]]]]]]]"), 0);
        lawFault("aims [[[[[[[[[1]]]]]]]]]", 13);
        due("eight of both", law(new OneBullet(), "bars if (((([[[[1]]]]=1)))) and (1=1)"), 0);
        lawFault("bars if ((((([[[[1]]]]=1)))))", 16);
        lawFault("bars if ((((((((( 1=1)))))))))", 16);
        StringBuilder nots = new StringBuilder("bars if ");
        for (int k = 0; k < 96; k++) nots.append("not ");
        OneBullet x = under(nots + "1=1");
        due("ninety-six times not", x.barred(0, 0), 1);
        x = under(nots + "not 1=1");
        due("ninety-seven times not", x.barred(0, 0), 0);
    }

    private static void reckoning() {
        promise = 15;
        price("0", 5000);
        price("7/2*2", 5006);
        price("7%4", 5003);
        price("[0-7]/2", 4997);
        price("[0-7]%4", 4997);
        price("[1-8]%[0-4]", 4997);
        price("2+3*4", 5014);
        price("[2+3]*4", 5020);
        price("9-3-2", 5004);
        price("100/5/2", 5010);
        price("7/0", 7);
        price("7%0", 7);
        price("0/[hard-60]", 7);
        price("1000*1000*1000/1000/1000", 6000);
        price("[1000*1000*1000+1]/1000/1000", 7);
        price("[0-1000*1000*1000]/1000/1000", 4000);
        price("[0-1000*1000*1000-1]/1000/1000", 7);
        price("[1000*1000*1000+1]*0", 7);
        price("hard+kind+dents+place", 5060);
        test("1 < 2", 1);
        test("2 < 2", 0);
        test("2 > 1", 1);
        test("2 > 2", 0);
        test("2 = 2", 1);
        test("not 2 = 2", 0);
        test("not not 2 = 2", 1);
        test("1 = 1 or 1 / 0 = 1", 1);
        test("1 / 0 = 1 or 1 = 1", 0);
        test("1 = 2 or 1 / 0 = 1", 0);
        test("not (1 = 2 and 1 / 0 = 1)", 1);
        test("not (1 = 1 and 1 / 0 = 1)", 0);
        test("not 1 / 0 = 1", 0);
        test("1 = 2 and 1 = 2 or 1 = 1", 1);
        test("1 = 1 or 1 = 2 and 1 = 2", 1);
        test("(1 = 1 or 1 = 2) and 1 = 2", 0);
        test("1 = 2 and 1 / 0 = 1 or 1 = 1", 1);
        test("person = 0 and aim = 5 and place = 0 and kind = 0 and hard = 60 and dents = 0", 1);
        test("weight = 100 and flat = 0 and rust = 0 and day = 0 and mood = 0", 1);
    }

    private static void ordersTold() {
        promise = 16;
        OneBullet x = province();
        due("a rest", orders(x, "rest 3"), 1);
        due("day", x.count(13), 3);
        due("undo", x.count(5), 1);
        due("times", orders(x, "rest 1 times 20"), 20);
        due("undo kept", x.count(5), 16);
        due("day", x.count(13), 23);
        due("none run", orders(x, "rest 5 if 1 = 2; rest 5 if 1/0 = 1"), 0);
        due("its if is asked each time", orders(x, "rest 1 times 9 if done < 4"), 4);
        due("day", x.count(13), 27);
        due("now", orders(x, "rest 30 - now"), 1);
        due("day", x.count(13), 30);
        due("a fire", orders(x, "fire 0 at 0 times 2; fire 1 at dents 0 - 1 if weight = 88 and flat = 6 and rust = 36"), 3);
        due("weight", x.bullet(0), 86);
        due("no such", orders(x, "rest 1 if dents 3 = 0 - 1 and hurt 9 = 0 - 1 and hurt 2 = 0 and dents 2 = 0"), 1);
        x.quarrel(2, 1, 0, 999);
        int day = x.count(13);
        due("a duel", orders(x, "rest 1 if ended = 0 - 1; duel 0 by 1000*1000; rest 2 if ended = 1 and hurt 1 = now + 7"), 3);
        due("day", x.count(13), day + 3);
        due("hurt", x.of(1, 2), day + 8);
        due("undone", x.undo(), 2);
        due("undone", x.undo(), 1);
        due("undone", x.undo(), 2);
        due("day", x.count(13), day);
        due("nothing ahead of the quarrel", x.undo(), -3);
        promise = 18;
        due("none stopped", x.stopped(), -1);
        stops("rest 1; fire 0 at 3", 1);
        stops("rest 1; fire 3 at 0", 1);
        stops("rest 1; rest 2; fire 0 at 0; rest 100", 3);
        stops("rest 0", 0);
        stops("rest 1/0", 0);
        stops("fire 1/0 at 0", 0);
        stops("fire 0 at 1/0", 0);
        stops("duel 0 by 5", 0);
        stops("fire 0 at 2 times 2", 0);
        stops("rest 1 times 20; rest 1-done/20 times 20", 1);
        promise = 16;
        due("a duel that is there", orders(x, "duel 0 by 1000*1000+1; rest 1"), -3);
        ordersFault("", 0);
        ordersFault("   ", 3);
        ordersFault("rest", 4);
        ordersFault("aims 1", 0);
        ordersFault("fire 1", 6);
        ordersFault("fire 1 by 1", 7);
        ordersFault("duel 1 at 1", 7);
        ordersFault("rest 1 at 1", 7);
        ordersFault("rest 1 times 0", 13);
        ordersFault("rest 1 times 21", 13);
        ordersFault("rest 1 times done", 13);
        ordersFault("rest 1 if 1 = 1 times 2", 16);
        ordersFault("rest hurt 10", 10);
        ordersFault("rest hurt", 9);
        ordersFault("rest hurt now", 10);
        ordersFault("rest dents 12", 11);
        ordersFault("rest aim", 5);
        ordersFault("rest day", 5);
        ordersFault("rest 1;rest 1 ;", 15);
        StringBuilder fifty = new StringBuilder("rest 1");
        for (int k = 1; k < 49; k++) fifty.append("+0");
        due("fifty parts, those behind hurt and times aside", orders(province(), fifty + "+hurt 0 times 2"), 2);
        ordersFault(fifty + "+hurt 0 if now = 1", fifty.length() + 11);
        ordersFault(fifty + "+1+hurt 0", fifty.length() + 3);
    }

    private static void stops(String text, int clause) {
        OneBullet x = province();
        x.rest(4);
        x.fire(0, 0);
        promise = 16;
        due(text, orders(x, text), -3);
        due("fault of " + text, x.fault(), -1);
        due("day behind " + text, x.count(13), 7);
        due("weight behind " + text, x.bullet(0), 94);
        due("lost behind " + text, x.bullet(3), 0);
        due("log behind " + text, x.count(3), 1);
        due("lead behind " + text, x.count(18), 6);
        due("undo behind " + text, x.count(5), 2);
        due("undone behind " + text, x.undo(), 0);
        due("undone behind " + text, x.undo(), 2);
        due("day at last behind " + text, x.count(13), 0);
        due("refused once by " + text, x.count(9), 1);
        promise = 18;
        due(text, x.stopped(), clause);
        orders(x, "nonsense");
        due("stopped behind what can't be read", x.stopped(), -1);
    }

    private static void faults() {
        promise = 17;
        OneBullet x = new OneBullet();
        law(x, "bars bars");
        due("law", x.fault(), 5);
        x.feed(0, 0, 0, 0, 0);
        x.row();
        due("row reads no text", x.fault(), 5);
        orders(x, "rest rest");
        due("orders", x.fault(), 5);
        orders(x, "rest 1");
        due("without", x.fault(), -1);
        orders(x, "rest");
        due("orders", x.fault(), 4);
        orders(x, "rest 100");
        due("orders that could be read", x.fault(), -1);
        promise = 19;
        law(x, "bars");
        law(x, "bars");
        due("none", x.force(1), -1);
        due("status", x.status(), 0);
        due("not counted", x.count(7), 0);
        due("one", x.force(0), 1);
        due("no such", x.force(2), -2);
        due("below", x.force(-2), -2);
        due("in force", x.count(12), 0);
        due("none again", x.force(-1), 0);
        due("in force", x.count(12), -1);
        promise = 20;
        OneBullet y = under("bars if person = 1 and kind = 2; bars if 1/0 = 1; bars if place = 1");
        due("barred", y.barred(1, 2), 1);
        due("another", y.barred(0, 2), 0);
        due("a later clause", y.barred(0, 1), 1);
        due("broken", y.barred(0, 0), 0);
        due("no person", y.barred(3, 0), -1);
        due("no place", y.barred(0, 3), -1);
        due("below", y.barred(-1, -1), -1);
        y.force(-1);
        due("without", y.barred(1, 2), 0);
    }

    private static void shots() {
        promise = 21;
        OneBullet x = province();
        due("weight", x.fire(1, 0), 94);
        due("flat", x.bullet(1), 3);
        due("rust", x.bullet(2), 3);
        due("day", x.count(13), 3);
        due("dents", x.at(0, 3), 1);
        due("lead", x.count(19), 6);
        x.terms(3, 2);
        due("wood", x.fire(0, 1), 92);
        due("five by two, cut upwards", x.count(13), 6);
        due("lead", x.count(18), 2);
        due("no person", x.fire(3, 0), -2);
        due("no place", x.fire(0, 3), -2);
        due("below", x.fire(-1, 0), -2);
        due("lake", x.fire(0, 2), 88);
        due("day", x.count(13), 6);
        due("lost", x.fire(0, 0), -3);
        due("missing ahead of lost", x.fire(3, 0), -2);
        x = province();
        x.put(0, 20);
        x.put(1, 98);
        x.put(2, 98);
        x.terms(0, 998);
        due("just heavy enough", x.fire(0, 0), 14);
        due("flat at most", x.bullet(1), 99);
        due("rust by the days that came", x.bullet(2), 99);
        due("day at most", x.count(13), 999);
        due("too light", x.fire(0, 0), -3);
        x = under("wears 50; bars if person = 1; flattens weight");
        x.terms(2, 1);
        x.put(0, 30);
        due("barred", x.fire(1, 0), -3);
        due("0 at least", x.fire(0, 0), 0);
        due("what it lost", x.count(18), 30);
        due("flattens by the bullet as it was", x.bullet(1), 30);
        x = province();
        x.put(2, 95);
        x.fire(0, 1);
        due("rust at most", x.bullet(2), 99);
        x.terms(0, 0);
        x.quarrel(2, 0, 0, 9);
        x.duel(0, 3);
        due("hurt", x.fire(0, 0), -3);
        x.rest(7);
        due("well", x.fire(0, 0), 92);
    }

    private static void duels() {
        promise = 22;
        OneBullet x = province();
        x.quarrel(0, 1, 0, 0);
        x.quarrel(1, 2, 1, 5);
        x.quarrel(1, 0, 2, 9);
        due("seed below", x.duel(0, -1), -1);
        due("seed above", x.duel(0, 1000001), -1);
        due("seed ahead of missing", x.duel(5, -1), -1);
        due("no quarrel", x.duel(3, 0), -2);
        due("quarrel -1", x.duel(-1, 0), -2);
        // 17860: 711925 mod 10 is 5 .. a miss by 5 of ten; the second never hits; then 2 hits.
        due("the second one is hit", x.duel(0, 17860), 1);
        due("two shots were worn", x.bullet(0), 88);
        due("leads", x.count(18), 6);
        due("leads", x.count(19), 6);
        due("moved up", x.about(0, 1), 2);
        due("moved up", x.about(1, 2), 2);
        due("hurt", x.duel(0, 5), -3);
        x.rest(7);
        due("the first one is hit", x.duel(0, 1000000), 2);
        due("day", x.count(13), 18);
        due("hurt till", x.of(1, 2), 25);
        due("log", x.bullet(5), 13);
        x.rest(7);
        due("into the lake", x.duel(0, 0), 3);
        due("lost", x.bullet(3), 1);
        due("none left", x.count(2), 0);
        x = province();
        x.person(0, 0);
        x.terms(1, 4);
        x.quarrel(1, 3, 0, 0);
        due("nobody", x.duel(0, 77), 0);
        due("eight shots", x.count(3), 8);
        due("weight", x.bullet(0), 52);
        x.put(0, 26);
        x.quarrel(1, 3, 0, 0);
        due("too light ahead of the last", x.duel(0, 77), 3);
        x.terms(1, 1);
        x.put(0, 26);
        x.quarrel(1, 3, 0, 0);
        due("too light behind the last", x.duel(0, 77), 0);
        x.quarrel(1, 3, 0, 0);
        due("too light from the first", x.duel(0, 77), -3);
        due("status", x.status(), -3);
        due("it stays", x.count(2), 1);
        due("no shot", x.count(3), 12);
        due("nothing of it to be undone", x.count(5), 0);
        due("seed ahead of too light", x.duel(0, -1), -1);
        due("missing ahead of too light", x.duel(1, 77), -2);
        x.put(0, 100);
        x.fire(1, 2);
        due("lost", x.duel(0, 77), -3);
        due("it stays", x.count(2), 1);
        promise = 18;
        due("by orders, too", orders(x, "rest 1; duel 0 by 77"), -3);
        due("which", x.stopped(), 1);
        due("as it was", x.count(13), 36);
        promise = 22;
        x = under("bars if person = 1 and place = 0; aims 10 if weight < 100; aims 0 if weight = 100");
        x.quarrel(2, 1, 0, 0);
        x.quarrel(2, 1, 1, 0);
        due("barred", x.duel(0, 0), -3);
        due("by the law as the bullet is then", x.duel(1, 0), 2);
        x = province();
        x.terms(0, 999);
        x.quarrel(2, 0, 0, 0);
        x.duel(0, 0);
        due("hurt beyond the last day", x.of(0, 2), 1006);
        due("hurt", x.of(0, 3), 1);
    }

    private static void rests() {
        promise = 23;
        OneBullet x = new OneBullet();
        due("0", x.rest(0), -1);
        due("100", x.rest(100), -1);
        due("1", x.rest(1), 1);
        due("99", x.rest(99), 100);
        due("rust at most", x.bullet(2), 99);
        x.put(2, 0);
        x.terms(0, 990);
        due("day at most", x.rest(20), 999);
        due("rust by the days that came", x.bullet(2), 9);
    }

    private static void undoing() {
        promise = 24;
        OneBullet x = province();
        due("none", x.undo(), -3);
        x.quarrel(0, 1, 0, 9);
        x.quarrel(2, 1, 1, 8);
        x.rest(2);
        x.fire(1, 0);
        x.duel(1, 0);
        x.duel(0, 0);
        due("refused", x.status(), -3);
        due("three", x.count(5), 3);
        law(x, "bars");
        x.force(0);
        x.image(0);
        x.season(0, 1);
        due("duel", x.undo(), 1);
        due("quarrels", x.count(2), 2);
        due("quarrel", x.about(1, 0), 2);
        due("hurt", x.of(1, 2), 0);
        due("log", x.count(3), 1);
        due("the law stays", x.count(12), 0);
        due("fire", x.undo(), 0);
        due("dents", x.at(0, 3), 0);
        due("lead", x.count(19), 0);
        due("weight", x.bullet(0), 100);
        due("day", x.count(13), 2);
        due("rest", x.undo(), 2);
        due("rust", x.bullet(2), 0);
        due("none", x.undo(), -3);
        for (int k = 0; k < 18; k++) x.rest(1);
        for (int k = 0; k < 16; k++) due("sixteen", x.undo(), 2);
        due("no more", x.undo(), -3);
        due("day", x.count(13), 2);
        for (int k = 0; k < 8; k++) {
            x.rest(1);
            due("something", x.count(5), 1);
            switch (k) {
                case 0: x.put(0, 100); break;
                case 1: x.place(0, 0, 0); break;
                case 2: x.person(0, 0); break;
                case 3: x.quarrel(0, 1, 0, 0); break;
                case 4: x.terms(4, 0); break;
                case 5: x.feed(0, 0, 0, 0, 0); x.end(2); x.row(); break;
                case 6: x.back(0); break;
                default: x.put(0, 1000); x.place(4, 0, 0); x.person(11, 0); x.quarrel(0, 0, 0, 0); x.terms(9, 9); x.row(); x.back(1);
            }
            due("what ends it, " + k, x.count(5), k == 7 ? 1 : 0);
        }
    }

    private static void logs() {
        promise = 25;
        OneBullet x = new OneBullet();
        x.person(0, 0);
        for (int k = 0; k < 12; k++) x.place(3, 0, 0);
        for (int k = 0; k < 24; k++) x.fire(0, k % 12);
        due("eldest", x.log(0), 0);
        due("latest", x.log(23), 11);
        due("24", x.log(24), -1);
        due("-1", x.log(-1), -1);
        x.fire(0, 7);
        due("shots", x.count(3), 24);
        due("the eldest is gone", x.log(0), 1);
        due("moved up", x.log(21), 10);
        due("moved up", x.log(22), 11);
        due("latest", x.log(23), 7);
        x.undo();
        due("eldest again", x.log(0), 0);
        due("latest again", x.log(23), 11);
    }

    private static void oddsTold() {
        promise = 26;
        OneBullet x = province();
        x.person(3, 0);
        x.quarrel(0, 3, 0, 0);
        // 1/2, then 1/2 * 3/10, then 1/2 * 7/10 * 1/2, then 1/2 * 7/10 * 1/2 * 3/10.
        due("second hit", x.odds(0, 1), 67500000);
        due("first hit", x.odds(0, 2), 20250000);
        due("nobody", x.odds(0, 0), 12250000);
        due("broken off", x.odds(0, 3), 0);
        x.put(0, 30);
        due("too light behind two", x.odds(0, 3), 35000000);
        due("second hit", x.odds(0, 1), 50000000);
        due("first hit", x.odds(0, 2), 15000000);
        x.terms(1, 1);
        due("one round", x.odds(0, 0), 35000000);
        x.put(0, 19);
        due("too light", x.odds(0, 3), 100000000);
        x.put(0, 999);
        x.terms(1, 4);
        law(x, "aims 1; bars");
        x.force(0);
        due("eight shots, bars aside", x.odds(0, 0), 43046721);
        due("the first one's four of eight", x.odds(0, 1), 29975410);
        due("4", x.odds(0, 4), -1);
        due("-1", x.odds(0, -1), -1);
        due("no quarrel", x.odds(1, 0), -1);
        due("quarrel -1", x.odds(-1, 0), -1);
        due("on paper", x.bullet(0), 999);
        due("on paper", x.at(0, 3), 0);
        OneBullet y = under("aims dents*2");
        y.quarrel(1, 2, 0, 0);
        due("as all is then", y.odds(0, 2), 48800000);
    }

    private static void queues() {
        promise = 27;
        OneBullet x = province();
        due("the empty row", x.queue(0), 1);
        due("weight of the empty row", x.queue(21), 100);
        due("none of it", x.queue(1), -1);
        x.quarrel(0, 1, 0, 50);
        x.quarrel(2, 1, 1, 32);
        x.quarrel(0, 2, 0, 12);
        // 12, 20 and 12 days: 2 is first, or it is too late.
        due("rows", x.queue(0), 1);
        due("first", x.queue(1), 2);
        due("second", x.queue(2), 1);
        due("third", x.queue(3), 0);
        due("fourth", x.queue(4), -1);
        due("weight", x.queue(21), 44);
        due("best", x.queue(11), 2);
        due("best's third", x.queue(13), 0);
        due("best's fourth", x.queue(14), -1);
        for (int what : new int[] {-1, 8, 9, 10, 18, 19, 20, 22, 1000}) due("what " + what, x.queue(what), -1);
        due("on paper", x.count(13), 0);
        x.terms(3, 9);
        due("rows", x.queue(0), 6);
        due("first", x.queue(1), 0);
        // 56 is lost in all: 6 by the last shot if the wood isn't last, else 2.
        x.put(0, 73);
        due("the wood can't be last", x.queue(0), 4);
        due("first", x.queue(1), 0);
        due("its second", x.queue(2), 1);
        x.put(0, 70);
        due("just heavy enough ahead of the last shot", x.queue(0), 4);
        due("lighter than least behind it", x.queue(21), 14);
        x.put(0, 69);
        due("too light", x.queue(0), 0);
        due("none", x.queue(1), -1);
        due("none", x.queue(11), -1);
        due("none", x.queue(21), -1);
        x.put(0, 100);
        x.fire(0, 2);
        due("lost", x.queue(0), 0);
        x = province();
        x.quarrel(0, 1, 2, 999);
        due("a lake", x.queue(0), 0);
        x = under("wears 10 - dents if kind = 0; wears 1 if kind = 1 and flat > 5; wears 5 if kind = 1 and flat < 6; bars");
        x.quarrel(0, 1, 1, 999);
        x.quarrel(0, 2, 0, 999);
        due("bars aside", x.queue(0), 2);
        due("first", x.queue(1), 0);
        due("most is left by the other", x.queue(11), 1);
        due("its second", x.queue(12), 0);
        due("weight", x.queue(21), 100 - 34 - 4);
        x = province();
        for (int k = 0; k < 7; k++) x.quarrel(0, 1, 1, 999);
        x.terms(1, 1);
        due("all", x.queue(0), 5040);
        due("last of the first", x.queue(7), 6);
        due("last of the best, the first", x.queue(17), 6);
        due("weight", x.queue(21), 72);
        x = province();
        x.quarrel(2, 1, 0, 999);
        x.quarrel(1, 0, 1, 999);
        x.duel(0, 0);
        due("hurt aside", x.queue(0), 1);
    }

    private static void spadesTold() {
        promise = 28;
        OneBullet x = province();
        due("no quarrels", x.spades(), 1);
        x.quarrel(0, 1, 1, 20);
        due("one", x.spades(), 1);
        x.quarrel(0, 1, 1, 23);
        due("24 days by two, 16 by three", x.spades(), 3);
        x.quarrel(0, 1, 1, 12);
        due("by five", x.spades(), 5);
        due("as they were", x.count(16), 1);
        x.quarrel(0, 1, 0, 7);
        due("by five still", x.spades(), 5);
        x.quarrel(0, 1, 0, 3);
        due("not by nine", x.spades(), -1);
        x = province();
        x.place(3, 0, 18);
        x.terms(1, 1);
        x.quarrel(0, 1, 3, 4);
        due("by nine", x.spades(), 9);
        x = province();
        x.quarrel(0, 1, 2, 999);
        due("a lake", x.spades(), -1);
        x = under("wears 99 if rust < 5");
        x.quarrel(0, 1, 1, 999);
        x.put(0, 130);
        x.terms(1, 1);
        due("too light by nine, not by one", x.spades(), 1);
    }

    private static void freeOnes() {
        promise = 29;
        OneBullet x = province();
        x.person(1, 1);
        x.person(1, 1);
        x.person(1, 1);
        due("none", x.free(0), 0);
        due("none", x.free(1), 0);
        x.quarrel(0, 1, 0, 0);
        due("one", x.free(0), 1);
        due("one", x.free(1), 1);
        x.quarrel(1, 2, 0, 0);
        due("one still", x.free(0), 1);
        due("the lowest", x.free(1), 1);
        x.quarrel(0, 3, 0, 0);
        due("two", x.free(0), 2);
        due("1 and 2", x.free(1), 6);
        x.quarrel(2, 3, 0, 0);
        due("two still", x.free(0), 2);
        due("1 and 2 are lower than 0 and 3", x.free(1), 6);
        x.quarrel(4, 5, 0, 0);
        due("three", x.free(0), 3);
        due("1, 2, 4", x.free(1), 22);
        due("2", x.free(2), -1);
        due("-1", x.free(-1), -1);
    }

    private static void marksTold() {
        promise = 30;
        OneBullet x = province();
        due("n 0", x.marks(0, 100, 0, -1), -1);
        due("n 4", x.marks(4, 100, 0, -1), -1);
        due("three", x.marks(3, 86, 7, -1), 3);
        due("first", x.marks(3, 86, 7, 0), 0);
        due("second", x.marks(3, 86, 7, 1), 0);
        due("third", x.marks(3, 86, 7, 2), 1);
        due("fourth", x.marks(3, 86, 7, 3), -1);
        due("i -2", x.marks(3, 86, 7, -2), -1);
        due("i of one", x.marks(1, 94, 3, 1), -1);
        due("no lake", x.marks(1, 96, 2, -1), 0);
        due("none", x.marks(1, 96, 2, 0), -1);
        due("a weight below what can be", x.marks(1, -1, 3, -1), -1);
        due("a weight beyond what can be", x.marks(1, 1000, 3, -1), -1);
        due("the least weight, which no row brings about", x.marks(1, 0, 3, -1), 0);
        due("the most weight, which no row brings about", x.marks(1, 999, 3, -1), 0);
        due("a flat below what can be", x.marks(1, 94, -1, -1), -1);
        due("a flat beyond what can be", x.marks(1, 94, 100, -1), -1);
        due("the least flat, which no row brings about", x.marks(1, 94, 0, -1), 0);
        due("the most flat, which no row brings about", x.marks(1, 94, 99, -1), 0);
        due("a weight that can't be, the first place", x.marks(1, -1, 3, 0), -1);
        due("without places", new OneBullet().marks(1, 100, 0, -1), 0);
        due("without places a weight that can't be", new OneBullet().marks(1, -1, 0, -1), -1);
        due("no refusal", x.status(), 0);
        x.put(0, 7);
        due("lighter than least", x.marks(1, 1, 3, -1), 1);
        due("once more from 1", x.marks(2, 0, 6, -1), 1);
        due("not from 0", x.marks(3, 0, 9, -1), 0);
        x.put(0, 0);
        due("not at all from 0", x.marks(1, 0, 3, -1), 0);
        x.put(0, 100);
        x.fire(0, 2);
        due("lost aside", x.marks(1, 90, 5, -1), 1);
        due("on paper", x.at(0, 3), 0);
        x = under("wears 1 + dents * 3 + day / 10; flattens 0; bars");
        due("as all is then", x.marks(3, 88, 0, -1), 1);
        due("bars aside", x.marks(1, 99, 0, -1), 2);
    }

    private static void games() {
        promise = 31;
        OneBullet x = new OneBullet();
        due("no place", x.game(0), 0);
        due("none", x.game(1), 0);
        due("none", x.game(2), -1);
        x = province();
        x.put(0, 98);
        due("wins", x.game(0), 1);
        due("by", x.game(1), 2);
        due("lowest", x.game(2), 0);
        x.put(0, 100);
        due("loses", x.game(0), 0);
        due("by none", x.game(1), 0);
        due("none", x.game(2), -1);
        x.put(0, 23);
        due("only by the wood", x.game(2), 1);
        due("by one", x.game(1), 1);
        x.put(0, 20);
        due("least", x.game(0), 0);
        x.put(0, 19);
        due("too light", x.game(0), -1);
        // 20, 21, 24, 25 .. are lost: 997 is, 999 is won by 2 and by 6.
        x.put(0, 999);
        due("the heaviest", x.game(0), 1);
        due("by both", x.game(1), 2);
        x.put(0, 997);
        due("lost", x.game(0), 0);
        x.put(0, 98);
        due("3", x.game(3), -1);
        due("-1", x.game(-1), -1);
        x.fire(0, 2);
        due("lost", x.game(0), -1);
        x = under("wears 0 if weight < 50; wears 1 if weight > 49 and place = 1; bars");
        x.put(0, 50);
        due("the other can't make it lighter", x.game(0), 1);
        due("by both", x.game(1), 2);
        x.put(0, 49);
        due("can't", x.game(0), 0);
        x = new OneBullet();
        x.place(2, 50, 0);
        due("lakes alone", x.game(0), 0);
    }

    private static void shares() {
        promise = 32;
        OneBullet x = province();
        due("none", x.share(0, 0), -1);
        x.fire(0, 0);
        due("all", x.share(0, 0), 1);
        due("of all", x.share(0, 1), 1);
        due("nothing", x.share(1, 0), 0);
        due("of it", x.share(1, 1), 1);
        x.fire(1, 1);
        due("three", x.share(0, 0), 3);
        due("quarters", x.share(0, 1), 4);
        due("one", x.share(1, 0), 1);
        due("quarter", x.share(1, 1), 4);
        due("court 2", x.share(2, 0), -1);
        due("court -1", x.share(-1, 0), -1);
        due("what 2", x.share(0, 2), -1);
        due("what -1", x.share(0, -1), -1);
    }

    private static void seasons() {
        promise = 33;
        OneBullet x = province();
        due("seed", x.season(-1, 1), -1);
        due("seed above", x.season(1000001, 1), -1);
        due("n 0", x.season(0, 0), -1);
        due("n 31", x.season(0, 31), -1);
        due("none drawn", x.drawn(0), -1);
        due("rests", x.season(1000000, 30), 0);
        promise = 34;
        due("day", x.drawn(4), 90);
        due("rust", x.drawn(2), 90);
        due("on paper", x.count(13), 0);
        promise = 33;
        x.quarrel(2, 0, 0, 0);
        x.quarrel(2, 1, 1, 0);
        due("both, with rests between", x.season(5, 30), 2);
        promise = 34;
        due("weight", x.drawn(0), 100);
        due("none left", x.drawn(5), 0);
        due("day", x.drawn(4), 84);
        x.season(-1, 1);
        due("the latest that was had", x.drawn(5), 0);
        due("on paper", x.count(2), 2);
        due("on paper", x.of(0, 2), 0);
        promise = 33;
        x = province();
        x.quarrel(0, 1, 0, 50);
        x.quarrel(2, 1, 1, 20);
        due("one", x.season(5, 1), 1);
        promise = 34;
        int[] drawn = {88, 6, 6, 0, 6, 1};
        for (int k = 0; k < 6; k++) due("drawn " + k, x.drawn(k), drawn[k]);
        due("6", x.drawn(6), -1);
        due("-1", x.drawn(-1), -1);
        promise = 33;
        due("hurt: a rest", x.season(5, 2), 1);
        promise = 34;
        due("day", x.drawn(4), 9);
        due("left", x.drawn(5), 1);
        x = province();
        x.quarrel(1, 0, 2, 50);
        x.season(0, 3);
        due("lost", x.drawn(3), 1);
        due("day", x.drawn(4), 6);
        x.image(0);
        x.season(0, 1);
        x.back(0);
        due("images do not keep it", x.drawn(4), 0);
        x.put(0, 19);
        due("too light: rests", x.season(0, 5), 0);
        due("day", x.drawn(4), 15);
        due("none had", x.drawn(5), 1);
        due("not lost", x.drawn(3), 0);
        x.put(0, 20);
        x.quarrel(0, 1, 0, 50);
        x.quarrel(2, 1, 2, 50);
        x.season(0, 30);
        // 12345 draws the first; 628841 mod 10 is a miss, into the lake.
        due("lost: the others stay", x.drawn(3) * 10 + x.drawn(5), 12);
    }

    private static void images() {
        promise = 35;
        OneBullet x = province();
        due("2", x.image(2), -1);
        due("-1", x.image(-1), -1);
        due("0", x.image(0), 0);
        promise = 36;
        due("1 was not kept", x.back(1), -2);
        due("2", x.back(2), -1);
        due("-1", x.back(-1), -1);
        law(x, "aims 1");
        x.force(0);
        x.quarrel(0, 2, 0, 9);
        x.place(3, 3, 3);
        x.person(1, 1);
        x.fire(0, 0);
        x.terms(4, 9);
        due("1 kept", x.image(1), 0);
        tape(x, "wears");
        due("back", x.back(0), 0);
        int[] counts = {3, 3, 0, 0, 0, 0, 5, 4, 1, 0, 0, 0, -1, 0, 2, 20, 1, 0, 0, 0};
        for (int k = 0; k < counts.length; k++) due("count " + k, x.count(k), counts[k]);
        due("weight", x.bullet(0), 100);
        due("dents", x.at(0, 3), 0);
        x.end(0);
        law(x, "aims 2");
        x.force(0);
        due("the new law", x.of(0, 4), 2);
        due("back to 1", x.back(1), 0);
        due("the law as it was then", x.of(0, 4), 1);
        due("laws", x.count(4), 1);
        due("log", x.log(0), 0);
        due("mood", x.count(17), 9);
        due("quarrel", x.about(0, 1), 2);
        due("lead", x.count(18), 6);
        due("nothing to undo", x.undo(), -3);
        x.rest(1);
        due("images stay", x.back(0), 0);
        due("places", x.count(0), 3);
        due("images stay", x.back(1), 0);
        due("places", x.count(0), 4);
        law(x, "nonsense");
        x.back(0);
        due("fault stays", x.fault(), 0);
        orders(x, "rest 1; rest 0");
        x.back(0);
        due("stopped stays", x.stopped(), 1);
    }

    private static void countsAndStatus() {
        promise = 37;
        OneBullet x = province();
        x.put(9, 9);
        x.fire(9, 9);
        x.force(9);
        x.undo();
        x.undo();
        x.undo();
        for (int k = 0; k < 12; k++) x.place(0, 0, 0);
        for (int k = 0; k < 5; k++) x.row();
        x.bullet(9);
        x.at(99, 0);
        x.queue(99);
        x.end(99);
        x.image(0);
        x.back(0);
        int[] counts = {12, 3, 0, 0, 0, 0, 0, 1, 2, 3, 3, 5, -1, 0, 2, 20, 1, 0, 0, 0};
        for (int k = 0; k < counts.length; k++) due("count " + k, x.count(k), counts[k]);
        due("20", x.count(20), -1);
        due("-1", x.count(-1), -1);
        promise = 38;
        due("back", x.status(), 0);
        x.put(9, 9);
        due("put", x.status(), -1);
        x.bullet(9);
        x.feed(0, 0, 0, 0, 0);
        x.end(0);
        x.queue(0);
        due("none of these", x.status(), -1);
        x.put(0, 100);
        due("put", x.status(), 0);
        x.place(0, 0, 0);
        due("place", x.status(), -5);
        x.person(99, 0);
        due("person", x.status(), -1);
        x.quarrel(0, 9, 0, 0);
        due("quarrel", x.status(), -2);
        x.terms(0, -1);
        due("terms", x.status(), -1);
        x.row();
        due("row", x.status(), -6);
        x.fire(9, 9);
        due("fire", x.status(), -2);
        x.law();
        due("law", x.status(), -6);
        x.undo();
        due("undo", x.status(), -3);
        x.orders();
        due("orders", x.status(), -6);
        x.force(-1);
        due("force", x.status(), 0);
        x.duel(0, 0);
        due("duel", x.status(), -2);
        x.rest(0);
        due("rest", x.status(), -1);
        x.season(0, 1);
        due("season", x.status(), 0);
        x.image(2);
        due("image", x.status(), -1);
        x.back(1);
        due("back", x.status(), -2);
    }

    public static void main(String[] args) {
        newObject();
        putAndBullet();
        places();
        people();
        quarrels();
        terms();
        tapes();
        laws();
        reckoning();
        ordersTold();
        faults();
        shots();
        duels();
        rests();
        undoing();
        logs();
        oddsTold();
        queues();
        spadesTold();
        freeOnes();
        marksTold();
        games();
        shares();
        seasons();
        images();
        countsAndStatus();
        System.out.println(asked + " answers, " + wrong + " not as due");
        if (wrong != 0) System.exit(1);
    }
}
