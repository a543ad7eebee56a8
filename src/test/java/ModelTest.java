import java.math.BigInteger;
import java.util.ArrayDeque;
import java.util.ArrayList;
import java.util.List;
import java.util.Random;
import java.util.TreeSet;

/**
 * Long runs of calls, drawn from fixed seeds, against a second program that holds the town as
 * objects and sets and answers every question by trying it all on copies.
 */
public final class ModelTest {
    private static final int NONE = -1, UNKNOWN = -101, OUTSIDE = -102, STATE = -103, FULL = -104;

    static class Person {
        int place;
        boolean heard;
        int kind() { return 0; }
        int needs() { return 1; }
        int cries() { return 0; }
        boolean learns() { return true; }
        boolean knows() { return heard && learns(); }
        Person blankCopy() { return new Person(); }

        Person copy() {
            Person p = blankCopy();
            p.place = place;
            p.heard = heard;
            return p;
        }
    }

    static class Deaf extends Person {
        int kind() { return 1; }
        int needs() { return 5; }
        Person blankCopy() { return new Deaf(); }
    }

    static class Goose extends Person {
        int kind() { return 2; }
        int needs() { return 3; }
        boolean learns() { return false; }
        Person blankCopy() { return new Goose(); }
    }

    static class Boy extends Person {
        int kind() { return 3; }
        int cries() { return 4; }
        Person blankCopy() { return new Boy(); }
    }

    static class Clerk extends Boy {
        int kind() { return 4; }
        int cries() { return 7; }
        Person blankCopy() { return new Clerk(); }
    }

    static final Class<?>[] KINDS = {Person.class, Deaf.class, Goose.class, Boy.class, Clerk.class};

    static Person born(int kind) {
        switch (kind) {
            case 1: return new Deaf();
            case 2: return new Goose();
            case 3: return new Boy();
            case 4: return new Clerk();
            default: return new Person();
        }
    }

    static final class World {
        int[] noise = new int[6];
        List<Person> people = new ArrayList<>();
        int first, voice, law, cries, decrees = 1, days = 1;
        List<int[]> told = new ArrayList<>();

        World copy() {
            World w = new World();
            w.noise = noise.clone();
            for (Person p : people) {
                w.people.add(p.copy());
            }
            w.first = first;
            w.voice = voice;
            w.law = law;
            w.cries = cries;
            w.decrees = decrees;
            w.days = days;
            w.told.addAll(told);
            return w;
        }

        World fresh() {
            World w = copy();
            for (Person p : w.people) {
                p.heard = false;
            }
            return w;
        }

        void sound(int place, int loud, int away) {
            ArrayDeque<int[]> open = new ArrayDeque<>();
            open.add(new int[] {place, loud});
            while (!open.isEmpty()) {
                int[] c = open.poll();
                for (int i = 0; i < people.size(); i++) {
                    Person p = people.get(i);
                    int comes = c[1] - 2 * Math.abs(p.place - c[0]) - noise[p.place];
                    if ((away & 1 << i) != 0 || p.heard || comes < p.needs()) {
                        continue;
                    }
                    p.heard = true;
                    if (p.cries() > 0) {
                        open.add(new int[] {p.place, p.cries()});
                    }
                }
            }
        }

        int knowers() {
            int bits = 0;
            for (int i = 0; i < people.size(); i++) {
                bits |= people.get(i).knows() ? 1 << i : 0;
            }
            return bits;
        }

        int knowersAfter(int place, int loud, int away) {
            World w = copy();
            w.sound(place, loud, away);
            return w.knowers();
        }
    }

    static final class Model {
        StringBuilder page = new StringBuilder();
        World w;
        World kept;
        int towns;

        boolean place(int p) { return w != null && p >= 0 && p <= 5; }
        boolean person(int l) { return w != null && l >= 0 && l < w.people.size(); }
        static boolean loud(int l) { return l >= 1 && l <= 9; }

        int letter(int code) {
            if (code < 1 || code > 126) return OUTSIDE;
            if (page.length() == 12) return FULL;
            page.append((char) code);
            return page.length();
        }

        int blank() {
            int n = page.length();
            page.setLength(0);
            return n;
        }

        int fault() {
            String[] at = {"\\d", "\\d", "\\d", "\\d", "\\d", "\\d", ";", "[1-9]", "[1-5]"};
            for (int i = 0; i < page.length(); i++) {
                if (i >= at.length || !page.substring(i, i + 1).matches(at[i])) return i;
            }
            return page.length();
        }

        int town() {
            if (!page.toString().matches("[0-9]{6};[1-9][1-5]")) return STATE;
            w = new World();
            kept = null;
            towns++;
            int sum = 0;
            for (int i = 0; i < 6; i++) {
                w.noise[i] = Character.digit(page.charAt(i), 10);
                sum += w.noise[i];
            }
            w.first = w.voice = Character.digit(page.charAt(7), 10);
            w.law = Character.digit(page.charAt(8), 10);
            page = new StringBuilder();
            return sum;
        }

        int noise(int p) { return place(p) ? w.noise[p] : UNKNOWN; }

        int hum(int p, int n) {
            if (!place(p)) return UNKNOWN;
            if (n < 0 || n > 9) return OUTSIDE;
            int before = w.noise[p];
            w.noise[p] = n;
            return before;
        }

        int listener(int kind, int p) {
            if (kind < 0 || kind > 4) return OUTSIDE;
            if (!place(p)) return UNKNOWN;
            if (w.people.size() == 6) return FULL;
            Person q = born(kind);
            q.place = p;
            w.people.add(q);
            return w.people.size() - 1;
        }

        int about(int l, int what) {
            if (!person(l)) return UNKNOWN;
            Person p = w.people.get(l);
            int[] all = {p.kind(), p.place, p.knows() ? 1 : 0, p.heard ? 1 : 0, p.needs(), p.cries()};
            return what < 0 || what > 5 ? OUTSIDE : all[what];
        }

        int as(int l, int kind) {
            if (!person(l)) return UNKNOWN;
            if (kind < 0 || kind > 4) return OUTSIDE;
            return KINDS[kind].isInstance(w.people.get(l)) ? l : NONE;
        }

        int move(int l, int p) {
            if (!person(l) || !place(p)) return UNKNOWN;
            int before = w.people.get(l).place;
            w.people.get(l).place = p;
            return before;
        }

        int cry(int p, int loud) {
            if (!place(p)) return UNKNOWN;
            if (!loud(loud)) return OUTSIDE;
            if (w.voice < loud) return STATE;
            int before = w.knowers();
            w.sound(p, loud, 0);
            w.voice--;
            w.cries++;
            return Integer.bitCount(w.knowers()) - Integer.bitCount(before);
        }

        int would(int p, int loud) {
            if (!place(p)) return UNKNOWN;
            return loud(loud) ? w.knowersAfter(p, loud, 0) : OUTSIDE;
        }

        int honey() {
            if (w == null) return STATE;
            w.voice = w.voice > 7 ? 9 : w.voice + 2;
            return w.voice;
        }

        int day() {
            if (w == null) return STATE;
            w.days++;
            return w.voice = w.first;
        }

        int decree() {
            if (w == null) return STATE;
            int lawful = w.cries < w.law ? 0 : 1;
            w = w.fresh();
            w.cries = 0;
            w.decrees++;
            return lawful;
        }

        int least(int what) {
            if (what != 0 && what != 1) return OUTSIDE;
            if (w == null) return STATE;
            if (w.voice == 0) return NONE;
            TreeSet<Integer> ways = new TreeSet<>();
            for (int p = 0; p < 6; p++) {
                ways.add(10 * Integer.bitCount(w.knowersAfter(p, 1, 0)) + p);
            }
            return what == 0 ? ways.first() % 10 : ways.first() / 10;
        }

        int cover(int bits, int what) {
            int n = w == null ? 0 : w.people.size();
            if (bits < 0 || bits >= 1 << n) return OUTSIDE;
            if (what != 0 && (what < 10 || what > 12)) return OUTSIDE;
            if (w == null) return STATE;
            String best = null;
            int[] codes = {1, 6, 36, 216};
            for (int few = 0; few <= 3 && best == null; few++) {
                for (int code = 0; code < codes[few] && best == null; code++) {
                    StringBuilder digits = new StringBuilder(Integer.toString(code, 6));
                    while (digits.length() < few) digits.insert(0, '0');
                    String way = few == 0 ? "" : digits.toString();
                    if (covers(way, bits)) best = way;
                }
            }
            if (best == null) return NONE;
            if (what == 0) return best.length();
            return what - 10 < best.length() ? best.charAt(what - 10) - '0' : NONE;
        }

        boolean covers(String way, int bits) {
            World c = w.copy();
            for (char p : way.toCharArray()) {
                if (c.voice == 0) return false;
                c.sound(p - '0', c.voice, 0);
                c.voice--;
            }
            return (c.knowers() & bits) == bits;
        }

        int hush(int l, int p, int loud, int what) {
            if (!person(l) || !place(p)) return UNKNOWN;
            if (!loud(loud) || what < 0 || what > 1) return OUTSIDE;
            for (int few = 0; few < w.people.size(); few++) {
                for (int away = 0; away < 1 << w.people.size(); away++) {
                    if (Integer.bitCount(away) != few || (away & 1 << l) != 0) continue;
                    if ((w.fresh().knowersAfter(p, loud, away) & 1 << l) == 0) return what == 0 ? few : away;
                }
            }
            return NONE;
        }

        int tell(int l, boolean knows) {
            if (!person(l)) return UNKNOWN;
            if (w.told.size() == 8) return FULL;
            w.told.add(new int[] {l, knows ? 1 : 0});
            return w.told.size();
        }

        int forget() {
            if (w == null) return 0;
            int n = w.told.size();
            w.told.clear();
            return n;
        }

        List<Integer> possible(List<int[]> told) {
            List<Integer> out = new ArrayList<>();
            for (int c = 1; c <= 59; c++) {
                if (c % 10 == 0) continue;
                int know = w.fresh().knowersAfter(c / 10, c % 10, 0);
                boolean so = true;
                for (int[] t : told) so &= (know >> t[0] & 1) == t[1];
                if (so) out.add(c);
            }
            return out;
        }

        int where(int what) {
            if (what != 0 && what != 1) return OUTSIDE;
            if (w == null) return STATE;
            List<Integer> all = possible(w.told);
            return what == 0 ? all.size() : all.isEmpty() ? NONE : all.get(0);
        }

        int ask() {
            if (w == null) return STATE;
            if (possible(w.told).isEmpty()) return NONE;
            int best = NONE, least = 1000;
            for (int l = 0; l < w.people.size(); l++) {
                int worst = 0;
                for (int yes = 0; yes <= 1; yes++) {
                    List<int[]> more = new ArrayList<>(w.told);
                    more.add(new int[] {l, yes});
                    worst = Math.max(worst, possible(more).size());
                }
                if (worst < least) {
                    least = worst;
                    best = l;
                }
            }
            return best;
        }

        int days(int days, int seed, int what) {
            if (days < 1 || days > 60 || seed < 0 || what < 0 || what > 2) return OUTSIDE;
            if (w == null) return STATE;
            BigInteger s = BigInteger.valueOf(seed);
            int all = 0, last = 0;
            for (int d = 0; d < days; d++) {
                s = next(s);
                int p = s.shiftRight(16).mod(BigInteger.valueOf(6)).intValue();
                s = next(s);
                int loud = 1 + s.shiftRight(16).mod(BigInteger.valueOf(9)).intValue();
                last = Integer.bitCount(w.fresh().knowersAfter(p, loud, 0));
                all += last;
            }
            return what == 0 ? all : what == 1 ? last : s.intValueExact();
        }

        static BigInteger next(BigInteger s) {
            return s.multiply(BigInteger.valueOf(1103515245)).add(BigInteger.valueOf(12345))
                .mod(BigInteger.TWO.pow(31));
        }

        int image() {
            if (w == null) return STATE;
            kept = w.copy();
            return w.decrees;
        }

        int restore() {
            if (kept == null) return STATE;
            w = kept.copy();
            return w.decrees;
        }

        int count(int what) {
            if (what < 0 || what > 9) return OUTSIDE;
            if (what == 8) return page.length();
            if (what == 9) return towns;
            if (w == null) return 0;
            int[] all = {w.people.size(), w.voice, w.law, w.cries, Integer.bitCount(w.knowers()),
                w.decrees, w.days, w.told.size()};
            return all[what];
        }

        long digest() {
            List<Integer> n = new ArrayList<>();
            int people = count(0);
            for (int l = 0; l < people; l++) {
                for (int what = 0; what < 6; what++) n.add(about(l, what));
                n.add(hush(l, 2, 9, 0));
                n.add(hush(l, 2, 9, 1));
            }
            if (w != null) digestTown(n, (1 << people) - 1);
            for (char c : page.toString().toCharArray()) n.add((int) c);
            for (int what = 0; what < 10; what++) n.add(count(what));
            long h = 1009;
            for (int k : n) h = h * 31 + k;
            return h;
        }

        void digestTown(List<Integer> n, int all) {
            for (int p = 0; p < 6; p++) {
                n.add(noise(p));
                n.add(would(p, 5));
            }
            n.add(least(0));
            n.add(least(1));
            for (int what : new int[] {0, 10, 11, 12}) n.add(cover(all, what));
            n.add(where(0));
            n.add(where(1));
            n.add(ask());
        }
    }

    static final int[] ODD = {Integer.MIN_VALUE, -65536, -1, 6, 7, 10, 13, 31, 32, 33, 63, 64, 65, 127, Integer.MAX_VALUE};

    /** Mostly a number from low to high, at times one that is likely outside. */
    static int some(Random r, int low, int high) {
        return r.nextInt(12) == 0 ? ODD[r.nextInt(ODD.length)] : low + r.nextInt(high - low + 1);
    }

    static int which(Random r, int... of) {
        return r.nextInt(12) == 0 ? ODD[r.nextInt(ODD.length)] : of[r.nextInt(of.length)];
    }

    static String townText(Random r) {
        StringBuilder s = new StringBuilder();
        int most = 1 + r.nextInt(10);
        for (int i = 0; i < 6; i++) s.append(r.nextInt(most));
        return s.append(';').append(1 + r.nextInt(9)).append(1 + r.nextInt(5)).toString();
    }

    /** One call of both: the answers, and what was called. */
    static long[] step(Random r, PaidToWhisper x, Model m, StringBuilder said) {
        int a, b, c, d;
        switch (r.nextInt(34)) {
            case 0: a = some(r, 44, 62); said.append("letter ").append(a); return two(x.letter(a), m.letter(a));
            case 1: said.append("blank"); return two(x.blank(), m.blank());
            case 2: said.append("fault"); return two(x.fault(), m.fault());
            case 3: said.append("town"); return two(x.town(), m.town());
            case 4: a = some(r, 0, 5); said.append("noise ").append(a); return two(x.noise(a), m.noise(a));
            case 5: a = some(r, 0, 5); b = some(r, 0, 9); said.append("hum ").append(a).append(' ').append(b);
                return two(x.hum(a, b), m.hum(a, b));
            case 6: case 7: case 8: a = some(r, 0, 4); b = some(r, 0, 5);
                said.append("listener ").append(a).append(' ').append(b);
                return two(x.listener(a, b), m.listener(a, b));
            case 9: a = some(r, 0, 5); b = some(r, 0, 5); said.append("about ").append(a).append(' ').append(b);
                return two(x.about(a, b), m.about(a, b));
            case 10: a = some(r, 0, 5); b = some(r, 0, 4); said.append("as ").append(a).append(' ').append(b);
                return two(x.as(a, b), m.as(a, b));
            case 11: a = some(r, 0, 5); b = some(r, 0, 5); said.append("move ").append(a).append(' ').append(b);
                return two(x.move(a, b), m.move(a, b));
            case 12: case 13: case 14: a = some(r, 0, 5); b = some(r, 1, 1 + r.nextInt(9));
                said.append("cry ").append(a).append(' ').append(b);
                return two(x.cry(a, b), m.cry(a, b));
            case 15: a = some(r, 0, 5); b = some(r, 1, 9); said.append("would ").append(a).append(' ').append(b);
                return two(x.would(a, b), m.would(a, b));
            case 16: said.append("honey"); return two(x.honey(), m.honey());
            case 17: said.append("day"); return two(x.day(), m.day());
            case 18: said.append("decree"); return two(x.decree(), m.decree());
            case 19: a = some(r, 0, 1); said.append("least ").append(a); return two(x.least(a), m.least(a));
            case 20: case 21: a = some(r, 0, 63); b = which(r, 0, 10, 11, 12);
                said.append("cover ").append(a).append(' ').append(b);
                return two(x.cover(a, b), m.cover(a, b));
            case 22: case 23: a = some(r, 0, 5); b = some(r, 0, 5); c = some(r, 1, 9); d = some(r, 0, 1);
                said.append("hush ").append(a).append(' ').append(b).append(' ').append(c).append(' ').append(d);
                return two(x.hush(a, b, c, d), m.hush(a, b, c, d));
            case 24: case 25: a = some(r, 0, 5); boolean k = r.nextBoolean();
                said.append("tell ").append(a).append(' ').append(k);
                return two(x.tell(a, k), m.tell(a, k));
            case 26: said.append("forget"); return two(x.forget(), m.forget());
            case 27: a = some(r, 0, 1); said.append("where ").append(a); return two(x.where(a), m.where(a));
            case 28: said.append("ask"); return two(x.ask(), m.ask());
            case 29: a = some(r, 1, 60); b = some(r, 0, 1000000); c = some(r, 0, 2);
                said.append("days ").append(a).append(' ').append(b).append(' ').append(c);
                return two(x.days(a, b, c), m.days(a, b, c));
            case 30: said.append("image"); return two(x.image(), m.image());
            case 31: said.append("restore"); return two(x.restore(), m.restore());
            case 32: a = some(r, 0, 9); said.append("count ").append(a); return two(x.count(a), m.count(a));
            default: said.append("digest"); return two(x.digest(), m.digest());
        }
    }

    static long[] two(long got, long want) {
        return new long[] {got, want};
    }

    static void readTown(Random r, PaidToWhisper x, Model m) {
        x.blank();
        m.blank();
        for (char c : townText(r).toCharArray()) {
            x.letter(c);
            m.letter(c);
        }
    }

    static boolean runs(long seed) {
        Random r = new Random(seed);
        PaidToWhisper x = new PaidToWhisper();
        Model m = new Model();
        StringBuilder all = new StringBuilder();
        int lateTown = r.nextInt(20);
        for (int i = 0; i < 380; i++) {
            if (i == lateTown || i > lateTown && r.nextInt(150) == 0) {
                readTown(r, x, m);
                all.append("a page; ");
            }
            StringBuilder said = new StringBuilder();
            boolean readNow = i == lateTown;
            long[] both = readNow ? two(x.town(), m.town()) : step(r, x, m, said);
            all.append(readNow ? "town" : said).append(" = ").append(both[0]).append("; ");
            if (both[0] != both[1]) {
                System.out.println("seed " + seed + ": due is " + both[1] + " for the last of: " + all);
                return false;
            }
        }
        return true;
    }

    public static void main(String[] args) {
        int wrong = 0;
        for (long seed = 1; seed <= 1500 && wrong < 3; seed++) {
            wrong += runs(seed) ? 0 : 1;
        }
        System.out.println(wrong == 0 ? "both programs answer alike" : "the two programs differ");
        if (wrong != 0) {
            System.exit(1);
        }
    }
}
