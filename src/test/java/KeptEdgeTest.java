/** Edges of images, of what is counted, of what calls are refused by (promises 35 to 38, Terms I, IV). */
public final class KeptEdgeTest {
    private static final int LOW = Integer.MIN_VALUE;
    private static final int HIGH = Integer.MAX_VALUE;

    /** A province in which much has happened. */
    private static OneBullet busy() {
        OneBullet x = Checks.under("aims 3 if person = 0; prices 7 + dents; bars if person = 1 and place = 1");
        x.quarrel(2, 0, 0, 9);
        x.quarrel(0, 1, 0, 8);
        x.put(1, 4);
        x.terms(4, 6);
        x.terms(3, 2);
        x.fire(0, 0);
        x.fire(1, 0);
        x.duel(0, 0);
        return x;
    }

    // ---- Promise 35: image. "IMAGES 0, 1"; "0; -1."

    static void p35_k0To1() {
        OneBullet x = new OneBullet();
        Checks.due("0, 1", new int[] {x.image(0), x.image(1), x.status()}, 0, 0, 0);
        Checks.due("2, -1, far", new int[] {x.image(2), x.image(-1), x.image(HIGH), x.image(LOW)}, -1, -1, -1, -1);
        Checks.due("by -1", new int[] {x.status(), x.count(7)}, -1, 4);
    }

    static void p35_itChangesNothing() {
        OneBullet x = busy();
        int[] before = Checks.picture(x);
        x.image(0);
        Checks.same("image", x, before);
        Checks.due("still to be undone", x.undo(), 1);
    }

    static void p35_keptAnew() {
        OneBullet x = new OneBullet();
        x.put(0, 50);
        x.image(0);
        x.put(0, 60);
        x.image(0);
        x.put(0, 70);
        x.back(0);
        Checks.due("the later one", x.bullet(0), 60);
    }

    static void p35_theTwoAreApart() {
        OneBullet x = new OneBullet();
        x.put(0, 50);
        x.image(0);
        x.put(0, 60);
        x.image(1);
        x.put(0, 70);
        x.back(0);
        Checks.due("0", x.bullet(0), 50);
        x.back(1);
        Checks.due("1", x.bullet(0), 60);
    }

    // ---- Promise 36: back. "0. -1; -2 it was not kept."

    static void p36_k0To1() {
        OneBullet x = new OneBullet();
        Checks.due("2, -1, far", new int[] {x.back(2), x.back(-1), x.back(HIGH), x.back(LOW)}, -1, -1, -1, -1);
        Checks.due("by -1, -2", new int[] {x.count(7), x.count(8)}, 4, 0);
    }

    static void p36_itWasNotKept() {
        OneBullet x = new OneBullet();
        Checks.due("neither", new int[] {x.back(0), x.back(1), x.count(8)}, -2, -2, 2);
        x.image(1);
        Checks.due("1 alone", new int[] {x.back(0), x.status(), x.back(1), x.status()}, -2, -2, 0, 0);
        x.image(2);
        Checks.due("0 still not", x.back(0), -2);
    }

    static void p36_aRefusedOneLeavesAllAsItWas() {
        OneBullet x = busy();
        int[] before = Checks.picture(x);
        x.back(0);
        x.back(2);
        Checks.same("back", x, before);
    }

    static void p36_allThatItKeepsIsAsItWasThen() {
        OneBullet x = busy();
        x.terms(1, 3);
        int[] kept = Checks.picture(x);
        x.image(0);
        x.put(0, 999);
        x.put(1, 0);
        x.put(2, 77);
        x.place(3, 3, 3);
        x.person(1, 1);
        x.quarrel(0, 1, 0, 1);
        for (int k = 0; k < 5; k++) x.terms(k, 4);
        Checks.law(x, "aims 9; bars");
        x.force(-1);
        x.terms(0, 100);
        x.fire(0, 0);
        x.fire(1, 1);
        x.duel(0, 870345);
        x.fire(2, 2);
        x.back(0);
        Checks.same("back", x, kept);
        Checks.due("how the law is", new int[] {x.of(0, 4), x.barred(1, 1), x.at(0, 6)}, 3, 1, 9);
        Checks.due("a new law is 1", Checks.law(x, "bars"), 1);
        Checks.due("a new place, person, quarrel", new int[] {x.place(0, 0, 0), x.at(3, 3), x.person(0, 0), x.of(3, 2), x.quarrel(0, 1, 0, 0)}, 3, 0, 3, 0, 1);
    }

    static void p36_lawsAreAsTheyWereThen() {
        OneBullet x = Checks.province();
        x.image(0);
        for (int k = 0; k < 6; k++) Checks.law(x, "aims " + k);
        x.force(4);
        x.image(1);
        x.back(0);
        Checks.due("none", new int[] {x.count(4), x.count(12), x.force(0), x.of(0, 4)}, 0, -1, -2, 5);
        for (int k = 0; k < 6; k++) Checks.law(x, "aims " + (9 - k));
        x.force(0);
        Checks.due("others", x.of(0, 4), 9);
        x.back(1);
        Checks.due("six, 4 in force", new int[] {x.count(4), x.count(12), x.of(0, 4)}, 6, 4, 4);
        for (int k = 0; k < 6; k++) {
            x.force(k);
            Checks.due("law " + k, x.of(0, 4), k);
        }
    }

    static void p36_imagesStay() {
        OneBullet x = busy();
        x.terms(1, 1);
        int[] kept = Checks.picture(x);
        x.image(1);
        for (int k = 0; k < 3; k++) {
            x.fire(2, 1);
            x.place(1, 1, 1);
            Checks.law(x, "aims 1");
            x.back(1);
            Checks.same("back", x, kept);
        }
    }

    static void p36_imagesAreNoPartOfImages() {
        OneBullet x = new OneBullet();
        x.image(0);
        x.put(0, 50);
        x.image(1);
        x.back(0);
        Checks.due("1 is kept still", new int[] {x.back(1), x.bullet(0)}, 0, 50);
    }

    static void p36_theTapeIsNotKept() {
        OneBullet x = new OneBullet();
        Checks.tape(x, "bars");
        x.image(0);
        Checks.tape(x, " if 1=1");
        x.back(0);
        Checks.due("11 bytes", new int[] {x.count(6), x.law()}, 11, 0);
        x.back(0);
        Checks.due("none", x.count(6), 0);
    }

    static void p36_faultChipsStoppedSeasonAreNotKept() {
        OneBullet x = new OneBullet();
        x.image(0);
        Checks.tape(x, "\4");
        x.row();
        Checks.orders(x, "rest 1; rest 0");
        Checks.law(x, "bars bars");
        x.season(0, 5);
        x.back(0);
        Checks.due("fault, chips, stopped, drawn", new int[] {x.fault(), x.chips(), x.stopped(), x.drawn(4)}, 5, 1, 1, 15);
    }

    static void p36_nothingCanBeUndoneBehindIt() {
        OneBullet x = new OneBullet();
        x.rest(1);
        x.image(0);
        x.rest(1);
        Checks.due("two", x.count(5), 2);
        x.back(0);
        Checks.due("none", new int[] {x.count(5), x.undo(), x.count(13)}, 0, -3, 1);
    }

    static void p36_howManyWereRefusedIsNotKept() {
        OneBullet x = new OneBullet();
        x.image(0);
        x.put(9, 9);
        x.force(9);
        x.undo();
        x.row();
        x.back(0);
        Checks.due("by -1, -2, -3, -5, -6", new int[] {x.count(7), x.count(8), x.count(9), x.count(10), x.count(11)}, 1, 1, 1, 0, 1);
    }

    static void p36_lostAndFoundAgain() {
        OneBullet x = Checks.province();
        x.image(0);
        x.fire(0, 2);
        x.back(0);
        Checks.due("not lost", new int[] {x.bullet(3), x.bullet(4)}, 0, 1);
    }

    static void p36_leadAndTheLogAreKept() {
        OneBullet x = Checks.province();
        x.fire(0, 0);
        x.fire(1, 1);
        x.image(0);
        x.fire(0, 0);
        x.back(0);
        Checks.due("leads, shots", new int[] {x.count(18), x.count(19), x.count(3), x.log(0), x.log(1), x.share(0, 0), x.share(0, 1)}, 6, 2, 2, 0, 1, 3, 4);
    }

    // ---- Promise 37: count. "0 PLACES .. 19"; "NONE for others."

    static void p37_0To19() {
        OneBullet x = new OneBullet();
        Checks.due("20, -1, far", new int[] {x.count(20), x.count(-1), x.count(HIGH), x.count(LOW)}, -1, -1, -1, -1);
        Checks.due("19", x.count(19), 0);
    }

    static void p37_full() {
        OneBullet x = new OneBullet();
        for (int k = 0; k < 13; k++) x.place(3, 0, 0);
        for (int k = 0; k < 11; k++) x.person(0, 0);
        for (int k = 0; k < 8; k++) x.quarrel(0, 1, 0, 0);
        for (int k = 0; k < 7; k++) Checks.law(x, "bars if 1=2");
        for (int k = 0; k < 25; k++) x.fire(0, 0);
        for (int k = 0; k < 21; k++) x.feed(0, 0, 0, 0, 0);
        Checks.due("places, people, quarrels, shots, laws, undo, bytes",
            new int[] {x.count(0), x.count(1), x.count(2), x.count(3), x.count(4), x.count(5), x.count(6)}, 12, 10, 7, 24, 6, 16, 400);
        Checks.due("by -5", x.count(10), 4);
    }

    static void p37_eachOnce() {
        OneBullet x = Checks.province();
        x.quarrel(0, 1, 0, 0);
        x.terms(0, 11);
        x.terms(1, 3);
        x.terms(2, 13);
        x.terms(3, 4);
        x.terms(4, 5);
        Checks.law(x, "bars if 1=2");
        Checks.law(x, "bars if 1=2");
        x.force(1);
        x.fire(0, 0);
        x.fire(1, 1);
        x.feed(0, 0, 0, 0, 0);
        x.end(7);
        x.put(3, 0);
        x.put(3, 0);
        x.force(7);
        int[] all = new int[20];
        for (int k = 0; k < 20; k++) all[k] = x.count(k);
        // 3 deep and 5 deep by 4 spades: one DAY and two.
        Checks.due("all", all, 3, 3, 1, 2, 2, 2, 7, 2, 1, 0, 0, 0, 1, 14, 3, 13, 4, 5, 6, 2);
    }

    static void p37_whatIsOnlyAskedIsNeverRefused() {
        OneBullet x = new OneBullet();
        x.bullet(9);
        x.at(9, 9);
        x.of(9, 9);
        x.about(9, 9);
        x.feed(0, 0, 0, 0, 0);
        x.end(99);
        x.barred(9, 9);
        x.log(9);
        x.odds(9, 9);
        x.queue(99);
        x.free(9);
        x.marks(9, 9, 9, 9);
        x.game(9);
        x.share(9, 9);
        x.drawn(9);
        x.count(99);
        Checks.due("by none", new int[] {x.count(7), x.count(8), x.count(9), x.count(10), x.count(11), x.status()}, 0, 0, 0, 0, 0, 0);
    }

    static void p37_eachRefusalIsCountedOnce() {
        OneBullet x = Checks.province();
        Checks.orders(x, "rest 1; rest 0");
        Checks.due("orders by -3 alone", new int[] {x.count(7), x.count(9)}, 0, 1);
        Checks.orders(x, "fire 9 at 9");
        Checks.due("orders by -3 alone", new int[] {x.count(8), x.count(9)}, 0, 2);
        x.rest(0);
        x.fire(9, 9);
        x.season(0, 0);
        Checks.due("by -1, -2, -3", new int[] {x.count(7), x.count(8), x.count(9)}, 2, 1, 2);
    }

    // ---- Promise 38: status. "0 if it was not, or ahead of any."

    static void p38_0AheadOfAny() {
        OneBullet x = new OneBullet();
        x.bullet(9);
        x.end(9);
        Checks.due("0", x.status(), 0);
    }

    private static void status(String what, OneBullet x, int answer, int want) {
        Checks.due(what, new int[] {answer, x.status()}, want, want);
        x.terms(4, 0);
        Checks.due("0 behind terms()", x.status(), 0);
    }

    static void p38_ofEachCallThatCanBeRefused() {
        OneBullet x = Checks.province();
        status("put", x, x.put(3, 0), -1);
        status("place", x, x.place(4, 0, 0), -1);
        status("person", x, x.person(11, 0), -1);
        status("quarrel", x, x.quarrel(0, 0, 0, 0), -1);
        status("quarrel", x, x.quarrel(0, 9, 0, 0), -2);
        status("terms", x, x.terms(5, 0), -1);
        status("row", x, x.row(), -6);
        status("law", x, x.law(), -6);
        status("orders", x, x.orders(), -6);
        status("orders", x, Checks.orders(x, "rest 0"), -3);
        status("force", x, x.force(0), -2);
        status("fire", x, x.fire(9, 0), -2);
        status("duel", x, x.duel(0, 0), -2);
        status("duel", x, x.duel(0, -1), -1);
        status("rest", x, x.rest(0), -1);
        status("undo", x, x.undo(), -3);
        status("season", x, x.season(0, 0), -1);
        status("image", x, x.image(2), -1);
        status("back", x, x.back(2), -1);
        status("back", x, x.back(0), -2);
        for (int k = 0; k < 12; k++) x.place(0, 0, 0);
        Checks.due("place", x.status(), -5);
        for (int k = 0; k < 6; k++) Checks.law(x, "bars");
        status("law", x, x.law(), -5);
    }

    static void p38_0BehindEachThatWasNot() {
        OneBullet x = Checks.province();
        int[] got = new int[16];
        for (int k = 0; k < 16; k++) {
            x.put(9, 9);
            Checks.due("refused", x.status(), -1);
            switch (k) {
                case 0: x.put(0, 100); break;
                case 1: x.place(0, 0, 0); break;
                case 2: x.person(10, 0); break;
                case 3: x.quarrel(3, 1, 0, 0); break;
                case 4: x.terms(4, 4); break;
                case 5: Checks.tape(x, "\1"); x.row(); break;
                case 6: Checks.law(x, "bars if 1=2"); break;
                case 7: Checks.orders(x, "rest 1"); break;
                case 8: x.force(-1); break;
                case 9: x.fire(0, 0); break;
                case 10: x.duel(0, 0); break;
                case 11: x.rest(1); break;
                case 12: x.undo(); break;
                case 13: x.season(0, 1); break;
                case 14: x.image(0); break;
                default: x.back(0);
            }
            got[k] = x.status();
        }
        Checks.due("all", got, new int[16]);
    }

    static void p38_otherCallsLeaveIt() {
        OneBullet x = Checks.province();
        x.quarrel(0, 1, 0, 0);
        x.fire(9, 9);
        x.bullet(0);
        x.at(0, 0);
        x.of(0, 0);
        x.about(0, 0);
        x.feed(0, 0, 0, 0, 0);
        x.end(0);
        x.chips();
        x.fault();
        x.stopped();
        x.barred(0, 0);
        x.log(0);
        x.odds(0, 0);
        x.queue(0);
        x.spades();
        x.free(0);
        x.marks(1, 94, 3, -1);
        x.game(0);
        x.share(0, 0);
        x.drawn(0);
        x.count(0);
        Checks.due("-2 still", x.status(), -2);
    }

    /** Terms I: what a REFUSED call leaves as it was, for each of them in a province in which much has happened. */
    static void p38_aRefusedCallLeavesAllAsItWas() {
        for (int k = 0; k < 17; k++) {
            OneBullet x = busy();
            x.season(0, 3);
            int[] before = Checks.picture(x);
            switch (k) {
                case 0: x.put(0, 1000); break;
                case 1: x.put(3, 5); break;
                case 2: x.place(0, 0, 21); break;
                case 3: x.person(0, 2); break;
                case 4: x.quarrel(0, 1, 0, 1000); break;
                case 5: x.quarrel(0, 1, 3, 0); break;
                case 6: x.terms(1, 5); break;
                case 7: x.row(); break;
                case 8: x.force(1); break;
                case 9: x.fire(0, 0); break;
                case 10: x.fire(1, 1); break;
                case 11: x.duel(0, 0); break;
                case 12: x.rest(100); break;
                case 13: x.season(0, 31); break;
                case 14: x.image(2); break;
                case 15: x.back(0); break;
                default: x.duel(0, 1000001);
            }
            Checks.due("refused " + k, x.status() < 0 ? 1 : 0, 1);
            Checks.same("refused " + k, x, before);
        }
    }

    static void p38_aCallWithoutRoomLeavesAllAsItWas() {
        OneBullet x = busy();
        for (int k = 3; k < 12; k++) x.place(1, k, k);
        for (int k = 3; k < 10; k++) x.person(k, 1);
        for (int k = 1; k < 7; k++) x.quarrel(k, 0, k, k);
        for (int k = 1; k < 6; k++) Checks.law(x, "aims " + k);
        x.terms(0, 50);
        x.fire(2, 0);
        int[] before = Checks.picture(x);
        Checks.due("-5 each", new int[] {x.place(0, 0, 0), x.person(0, 0), x.quarrel(0, 1, 0, 0), Checks.law(x, "aims 9")}, -5, -5, -5, -5);
        Checks.same("no room", x, before);
        Checks.due("still to be undone", new int[] {x.undo(), x.bullet(0)}, 0, 88);
    }

    /** Only FAULT and where it stopped are new, and the TAPE is empty: orders that run nothing set these back. */
    static void p38_aTextThatCanNotBeLeavesAllElseAsItWas() {
        String[] texts = {"", " ", "bars bars", "rest 1; rest", "fire 0 at 0; rest 1; aims"};
        for (int k = 0; k < 2 * texts.length; k++) {
            OneBullet x = busy();
            x.season(0, 3);
            Checks.orders(x, "rest 1 if 1=2");
            int[] before = Checks.picture(x);
            String text = texts[k / 2];
            Checks.due("-6 " + text, k % 2 == 0 ? Checks.law(x, text) : Checks.orders(x, text), -6);
            Checks.orders(x, "rest 1 if 1=2");
            Checks.same(text, x, before);
            Checks.due("still to be undone", x.undo(), 1);
        }
    }

    static void p38_anUndoThatIsRefusedLeavesAllAsItWas() {
        OneBullet x = busy();
        for (int k = 0; k < 3; k++) x.undo();
        int[] before = Checks.picture(x);
        Checks.due("-3", new int[] {x.undo(), x.undo(), x.status()}, -3, -3, -3);
        Checks.same("undo", x, before);
    }

    public static void main(String[] args) throws Exception {
        Checks.runAll(KeptEdgeTest.class, 35, 36, 37, 38);
    }
}
