import java.lang.reflect.Method;
import java.util.ArrayList;
import java.util.Arrays;
import java.util.List;
import java.util.TreeSet;

/** What the tests of edges share. A test is a static method p<number of the promise>_<what the sentence says>(). */
final class Checks {
    private static String test = "";
    private static int asked = 0;
    private static int wrong = 0;

    private Checks() {
    }

    static void due(String what, int got, int want) {
        asked++;
        if (got != want) {
            wrong++;
            System.out.println(test + ": " + what + " answered " + got + ", due is " + want);
        }
    }

    /** Answers of a call for neighbouring arguments, in one line. */
    static void due(String what, int[] got, int... want) {
        asked++;
        if (!Arrays.equals(got, want)) {
            wrong++;
            System.out.println(test + ": " + what + " answered " + Arrays.toString(got) + ", due is " + Arrays.toString(want));
        }
    }

    /** Feeds a text of signs 0 to 255 behind the tape, and ends it behind the text. */
    static void tape(OneBullet x, String text) {
        int had = x.count(6);
        for (int from = 0; from < text.length(); from += 20) {
            int[] v = new int[5];
            for (int k = 0; k < 20; k++) {
                v[k / 4] = v[k / 4] << 8 | (from + k < text.length() ? text.charAt(from + k) & 255 : ' ');
            }
            x.feed(v[0], v[1], v[2], v[3], v[4]);
        }
        x.end(had + text.length());
    }

    static int law(OneBullet x, String text) {
        tape(x, text);
        return x.law();
    }

    static int orders(OneBullet x, String text) {
        tape(x, text);
        return x.orders();
    }

    /** 0 a wall of HARD 60, DEEP 3; 1 a wood of 20, 5; 2 a lake of 40, 7. AIM 5 of COURT 0, AIMS 0 and 10 of COURT 1. */
    static OneBullet province() {
        OneBullet x = new OneBullet();
        x.place(0, 60, 3);
        x.place(1, 20, 5);
        x.place(2, 40, 7);
        x.person(5, 0);
        x.person(0, 1);
        x.person(10, 1);
        return x;
    }

    /** The province with a law in force. */
    static OneBullet under(String text) {
        OneBullet x = province();
        due("law " + text, law(x, text), 0);
        x.force(0);
        return x;
    }

    static String times(String part, int n) {
        StringBuilder out = new StringBuilder();
        for (int k = 0; k < n; k++) out.append(part);
        return out.toString();
    }

    /** All that calls tell without changing anything, but for how many calls were refused and by what. */
    static int[] picture(OneBullet x) {
        List<Integer> out = new ArrayList<>();
        for (int k = 0; k < 20; k++) if (k < 7 || k > 11) out.add(x.count(k));
        for (int k = 0; k < 6; k++) out.add(x.bullet(k));
        for (int p = 0; p < x.count(0); p++) for (int k = 0; k < 7; k++) out.add(x.at(p, k));
        for (int p = 0; p < x.count(1); p++) for (int k = 0; k < 4 + x.count(0); k++) out.add(x.of(p, k));
        for (int q = 0; q < x.count(2); q++) for (int k = 0; k < 5; k++) out.add(x.about(q, k));
        for (int k = 0; k < x.count(3); k++) out.add(x.log(k));
        for (int k = 0; k < 6; k++) out.add(x.drawn(k));
        out.add(x.chips());
        out.add(x.fault());
        out.add(x.stopped());
        int[] all = new int[out.size()];
        for (int k = 0; k < all.length; k++) all[k] = out.get(k);
        return all;
    }

    static void same(String what, OneBullet x, int[] before) {
        asked++;
        int[] now = picture(x);
        if (!Arrays.equals(now, before)) {
            wrong++;
            System.out.println(test + ": " + what + " left " + Arrays.toString(now) + ", it was " + Arrays.toString(before));
        }
    }

    /** Runs all tests of a class; each promise that it is for must have one. */
    static void runAll(Class<?> tests, int... promises) throws Exception {
        TreeSet<String> names = new TreeSet<>();
        TreeSet<Integer> tested = new TreeSet<>();
        for (Method m : tests.getDeclaredMethods()) {
            if (m.getName().matches("p\\d\\d_\\w+")) names.add(m.getName());
        }
        for (String name : names) {
            test = "promise " + Integer.parseInt(name.substring(1, 3)) + ", " + name.substring(4);
            int before = asked;
            Method m = tests.getDeclaredMethod(name);
            m.setAccessible(true);
            m.invoke(null);
            tested.add(Integer.parseInt(name.substring(1, 3)));
            if (asked == before) {
                wrong++;
                System.out.println(test + ": asks nothing");
            }
        }
        for (int promise : promises) {
            if (!tested.contains(promise)) {
                wrong++;
                System.out.println("promise " + promise + " has no test");
            }
        }
        System.out.println(names.size() + " edges, " + asked + " answers, " + wrong + " not as due");
        if (wrong != 0) System.exit(1);
    }
}
