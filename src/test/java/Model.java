import java.util.ArrayList;
import java.util.HashMap;
import java.util.List;
import java.util.Map;
import java.util.regex.Matcher;
import java.util.regex.Pattern;

/** The document once more, in the plainest way and without regard to cost, to compare with: all calls but the dull ones differ in how they are done. */
public final class Model implements Cloneable {
    static final int BAD = -1, STATE = -2, FULL = -3, NONE = -4;
    private static final List<String> KINDS = List.of("all", "part", "level", "none", "need");

    /** What an IMAGE holds. */
    static final class Realm {
        final List<int[]> lands = new ArrayList<>();
        final List<String> dreams = new ArrayList<>();
        final List<Integer> odds = new ArrayList<>();
        int need, hunger, cap = 40, rot, store, kind, v, money, starved;
        int[] price = {1, 1};
        String past = "";

        Realm copy() {
            Realm c = new Realm();
            for (int[] l : lands) {
                c.lands.add(l.clone());
            }
            c.dreams.addAll(dreams);
            c.odds.addAll(odds);
            c.need = need;
            c.hunger = hunger;
            c.cap = cap;
            c.rot = rot;
            c.store = store;
            c.kind = kind;
            c.v = v;
            c.money = money;
            c.starved = starved;
            c.price = price.clone();
            c.past = past;
            return c;
        }

        int food(int fat) {
            int sum = store;
            for (int[] l : lands) {
                sum += l[fat];
            }
            return sum;
        }

        int left(int fat) {
            int food = food(fat);
            int eaten = need > food ? food : need;
            return food - eaten;
        }

        int kept(int left) {
            int k;
            if (kind == 0) {
                k = left;
            } else if (kind == 1) {
                k = (int) Math.floor(left / (v + 1.0));
            } else if (kind == 2) {
                k = left >= v * 4 ? v * 4 : left;
            } else if (kind == 3) {
                k = 0;
            } else {
                k = left >= need * v ? need * v : left;
            }
            return k > cap ? cap : k;
        }

        int go(int fat, int kept) {
            int food = food(fat);
            int eaten = need > food ? food : need;
            int hungry = need - eaten;
            starved += hungry;
            money += price[fat] * (food - eaten - kept);
            store = kept;
            if (rot != 0) {
                store -= kept / rot;
            }
            past += fat == 1 ? "f" : "l";
            return hungry;
        }

        int byHim(int fat) {
            return go(fat, kept(left(fat)));
        }

        int fatIn(int r, int y) {
            return dreams.get(r).charAt(y) == 'f' ? 1 : 0;
        }

        boolean over() {
            return past.length() == 8;
        }

        List<Integer> possible() {
            List<Integer> list = new ArrayList<>();
            for (int r = 0; r < dreams.size(); r++) {
                if (dreams.get(r).startsWith(past)) {
                    list.add(r);
                }
            }
            return list;
        }
    }

    private Realm now = new Realm();
    private final StringBuilder tape = new StringBuilder();
    private int fault;
    private final List<int[]> seen = new ArrayList<>();
    private final Realm[] images = new Realm[2];
    private final Object[] sheets = new Object[4];
    private int torn;

    private static boolean in(int n, int a, int b) {
        return n >= a && n <= b;
    }

    private boolean isLand(int i) {
        return in(i, 0, now.lands.size() - 1);
    }

    private boolean isReading(int r) {
        return in(r, 0, now.dreams.size() - 1);
    }

    public int feed(int c) {
        if (!in(c, 0, 127)) {
            return BAD;
        }
        if (tape.length() == 160) {
            return FULL;
        }
        return tape.append((char) c).length();
    }

    public int end(int n) {
        int had = tape.length();
        if (!in(n, 0, had)) {
            return BAD;
        }
        tape.setLength(n);
        return had;
    }

    /** A fault of the text, with its place. */
    private static final class Torn extends RuntimeException {
        private static final long serialVersionUID = 1;
        final int which;
        final int place;

        Torn(int which, int place) {
            this.which = which;
            this.place = place;
        }
    }

    /** Takes the text token by token. */
    private static final class Tokens {
        final String text;
        int at;
        int start;

        Tokens(String text) {
            this.text = text;
        }

        /** "" at the end. */
        String take() {
            while (at < text.length() && text.charAt(at) == 32) {
                at++;
            }
            start = at;
            if (at == text.length()) {
                return "";
            }
            Matcher m = Pattern.compile("[a-z]+|[0-9]+|;").matcher(text).region(at, text.length());
            if (!m.lookingAt()) {
                throw new Torn(1, at);
            }
            at = m.end();
            if (Character.isDigit(m.group().charAt(0)) && m.group().length() > 2) {
                throw new Torn(1, start);
            }
            return m.group();
        }

        int number(int a, int b) {
            String t = take();
            if (!t.matches("[0-9]+")) {
                throw new Torn(2, start);
            }
            int n = Integer.parseInt(t);
            if (!in(n, a, b)) {
                throw new Torn(3, start);
            }
            return n;
        }
    }

    private static void line(Realm r, Tokens t, String word, List<String> had) {
        if (!List.of("land", "dream", "people", "granary", "price", "steward").contains(word)) {
            throw new Torn(2, t.start);
        }
        if (List.of("people", "granary", "price", "steward").contains(word) && had.contains(word)) {
            throw new Torn(4, t.start);
        }
        if (word.equals("land")) {
            if (r.lands.size() == 4) {
                throw new Torn(5, t.start);
            }
            int fat = t.number(0, 9);
            r.lands.add(new int[] {t.number(0, 9), fat});
        } else if (word.equals("dream")) {
            if (r.dreams.size() == 4) {
                throw new Torn(5, t.start);
            }
            String w = t.take();
            if (!w.matches("[a-z]+")) {
                throw new Torn(2, t.start);
            }
            if (!w.matches("[fl]{1,8}")) {
                throw new Torn(3, t.start);
            }
            r.dreams.add((w + "llllllll").substring(0, 8));
            r.odds.add(t.number(1, 9));
        } else if (word.equals("people")) {
            r.need = t.number(0, 40);
            r.hunger = t.number(0, 20);
        } else if (word.equals("granary")) {
            r.cap = t.number(0, 40);
            r.rot = t.number(0, 9);
            if (r.rot == 1) {
                throw new Torn(3, t.start);
            }
            r.store = t.number(0, r.cap);
        } else if (word.equals("price")) {
            r.price[1] = t.number(0, 9);
            r.price[0] = t.number(0, 9);
        } else {
            r.kind = KINDS.indexOf(t.take());
            if (r.kind < 0) {
                throw new Torn(2, t.start);
            }
            r.v = t.number(0, 9);
        }
        if (!t.take().equals(";")) {
            throw new Torn(2, t.start);
        }
        had.add(word);
    }

    public int text() {
        Tokens t = new Tokens(tape.toString());
        tape.setLength(0);
        Realm told = new Realm();
        List<String> had = new ArrayList<>();
        try {
            for (String word = t.take(); !word.isEmpty(); word = t.take()) {
                line(told, t, word, had);
            }
        } catch (Torn e) {
            fault = e.which;
            return -10 - e.place;
        }
        fault = 0;
        now = told;
        seen.clear();
        images[0] = null;
        images[1] = null;
        return had.size();
    }

    public int fault() {
        return fault;
    }

    public int rule(int what) {
        int[] all = {now.lands.size(), now.dreams.size(), now.need, now.hunger, now.cap, now.rot, now.store,
            now.price[1], now.price[0], now.kind, now.v, now.past.length(), now.money, now.starved};
        return in(what, 0, 13) ? all[what] : BAD;
    }

    public int land(int i, int what) {
        return isLand(i) && in(what, 0, 1) ? now.lands.get(i)[what] : BAD;
    }

    public int reading(int r, int what) {
        if (!isReading(r) || !(what == 0 || what == 1 || in(what, 10, 17))) {
            return BAD;
        }
        return what == 0 ? now.odds.get(r) : what == 1 ? (now.possible().contains(r) ? 1 : 0) : now.fatIn(r, what - 10);
    }

    public int bears(int fat) {
        return in(fat, 0, 1) ? now.food(fat) - now.store : BAD;
    }

    public int till(int i, int what, int v) {
        if (!isLand(i) || !in(what, 0, 1) || !in(v, 0, 9)) {
            return BAD;
        }
        int was = now.lands.get(i)[what];
        now.lands.get(i)[what] = v;
        return was;
    }

    public int weigh(int r, int v) {
        return isReading(r) && in(v, 1, 9) ? now.odds.set(r, v) : BAD;
    }

    public int need(int v) {
        int was = now.need;
        now.need = in(v, 0, 40) ? v : was;
        return in(v, 0, 40) ? was : BAD;
    }

    public int hunger(int v) {
        int was = now.hunger;
        now.hunger = in(v, 0, 20) ? v : was;
        return in(v, 0, 20) ? was : BAD;
    }

    public int cap(int v) {
        if (!in(v, 0, 40)) {
            return BAD;
        }
        if (now.store > v) {
            return STATE;
        }
        int was = now.cap;
        now.cap = v;
        return was;
    }

    public int rot(int v) {
        if (v != 0 && !in(v, 2, 9)) {
            return BAD;
        }
        int was = now.rot;
        now.rot = v;
        return was;
    }

    public int fill(int v) {
        if (!in(v, 0, 40) || v > now.cap) {
            return BAD;
        }
        int was = now.store;
        now.store = v;
        return was;
    }

    public int price(int fat, int v) {
        if (!in(fat, 0, 1) || !in(v, 0, 9)) {
            return BAD;
        }
        int was = now.price[fat];
        now.price[fat] = v;
        return was;
    }

    public int steward(int kind, int v) {
        if (!in(kind, 0, 4) || !in(v, 0, 9)) {
            return BAD;
        }
        int was = now.kind;
        now.kind = kind;
        now.v = v;
        return was;
    }

    public int go(int fat, int kept) {
        if (!in(fat, 0, 1) || kept < 0 || kept > now.left(fat) || kept > now.cap) {
            return BAD;
        }
        return now.over() ? FULL : now.go(fat, kept);
    }

    public int year(int fat) {
        return !in(fat, 0, 1) ? BAD : now.over() ? FULL : now.byHim(fat);
    }

    public int keeps(int left) {
        return in(left, 0, 99) ? now.kept(left) : BAD;
    }

    public int ahead(int r, int n, int what) {
        if (!isReading(r) || !in(n, 0, 8) || !in(what, 0, 2)) {
            return BAD;
        }
        Realm c = now.copy();
        c.money = 0;
        c.starved = 0;
        for (int i = 0; i < n && !c.over(); i++) {
            c.byHim(c.fatIn(r, c.past.length()));
        }
        return what == 0 ? c.store : what == 1 ? c.money : c.starved;
    }

    public int when(int r) {
        if (!isReading(r)) {
            return BAD;
        }
        for (int n = 1; n + now.past.length() <= 8; n++) {
            if (ahead(r, n, 2) > 0) {
                return now.past.length() + n - 1;
            }
        }
        return NONE;
    }

    public int can() {
        int bits = 0;
        for (int r : now.possible()) {
            bits += 1 << r;
        }
        return bits;
    }

    private static long low(long over, long under, int what) {
        for (long d = under; d > 1; d--) {
            if (over % d == 0 && under % d == 0) {
                return what == 0 ? over / d : under / d;
            }
        }
        return what == 0 ? over : under;
    }

    private static long odds(Realm r, List<Integer> some) {
        long sum = 0;
        for (int i : some) {
            sum += r.odds.get(i);
        }
        return sum;
    }

    public long fat(int y, int what) {
        if (!in(y, 0, 7) || !in(what, 0, 1)) {
            return BAD;
        }
        List<Integer> possible = now.possible();
        if (possible.isEmpty()) {
            return STATE;
        }
        long sum = 0;
        for (int r : possible) {
            sum += now.fatIn(r, y) * now.odds.get(r);
        }
        return low(sum, odds(now, possible), what);
    }

    /** ODDS times WORTH of the best of n YEARS, over some READINGS: every amount is tried. */
    private static long best(Realm r, int n, List<Integer> some, Map<String, Long> known) {
        if (n == 0 || r.over() || some.isEmpty()) {
            return 0;
        }
        String key = r.past + "/" + r.store;
        Long was = known.get(key);
        if (was != null) {
            return was;
        }
        long sum = 0;
        for (int fat = 0; fat < 2; fat++) {
            List<Integer> part = part(r, some, fat);
            long most = Long.MIN_VALUE;
            for (int kept = 0; kept <= r.cap && kept <= r.left(fat) && !part.isEmpty(); kept++) {
                most = Math.max(most, after(r, n, part, fat, kept, known));
            }
            sum += part.isEmpty() ? 0 : most;
        }
        known.put(key, sum);
        return sum;
    }

    private static List<Integer> part(Realm r, List<Integer> some, int fat) {
        List<Integer> part = new ArrayList<>();
        for (int i : some) {
            if (r.fatIn(i, r.past.length()) == fat) {
                part.add(i);
            }
        }
        return part;
    }

    private static long after(Realm r, int n, List<Integer> part, int fat, int kept, Map<String, Long> known) {
        Realm c = r.copy();
        c.go(fat, kept);
        long worth = c.money - r.money - (long) r.hunger * (c.starved - r.starved);
        return odds(r, part) * worth + best(c, n - 1, part, known);
    }

    private static long best(Realm r, int n, List<Integer> some) {
        return best(r.copy(), n, some, new HashMap<>());
    }

    public long best(int n, int what) {
        if (!in(n, 0, 5) || !in(what, 0, 1)) {
            return BAD;
        }
        List<Integer> possible = now.possible();
        return possible.isEmpty() ? STATE : low(best(now, n, possible), odds(now, possible), what);
    }

    public int choice(int n, int fat) {
        if (!in(n, 1, 5) || !in(fat, 0, 1)) {
            return BAD;
        }
        List<Integer> possible = now.possible();
        if (possible.isEmpty() || now.over()) {
            return STATE;
        }
        List<Integer> part = part(now, possible, fat);
        if (part.isEmpty()) {
            return NONE;
        }
        Map<String, Long> known = new HashMap<>();
        int found = 0;
        for (int kept = 1; kept <= now.cap && kept <= now.left(fat); kept++) {
            if (after(now, n, part, fat, kept, known) > after(now, n, part, fat, found, known)) {
                found = kept;
            }
        }
        return found;
    }

    public long knowing(int n, int what) {
        if (!in(n, 0, 5) || !in(what, 0, 1)) {
            return BAD;
        }
        List<Integer> possible = now.possible();
        if (possible.isEmpty()) {
            return STATE;
        }
        long sum = -best(now, n, possible);
        for (int r : possible) {
            sum += best(now, n, List.of(r));
        }
        return low(sum, odds(now, possible), what);
    }

    public long worth(int i, int n, int what) {
        if (!isLand(i) || !in(n, 0, 5) || !in(what, 0, 1)) {
            return BAD;
        }
        List<Integer> possible = now.possible();
        if (possible.isEmpty()) {
            return STATE;
        }
        Realm without = now.copy();
        without.lands.remove(i);
        return low(best(now, n, possible) - best(without, n, possible), odds(now, possible), what);
    }

    private static boolean safe(Realm r) {
        for (int i : r.possible()) {
            Realm c = r.copy();
            while (!c.over()) {
                if (c.byHim(c.fatIn(i, c.past.length())) > 0) {
                    return false;
                }
            }
        }
        return true;
    }

    public int safe(int kind) {
        if (!in(kind, 0, 4)) {
            return BAD;
        }
        int bits = 0;
        for (int v = 0; v < 10; v++) {
            Realm c = now.copy();
            c.kind = kind;
            c.v = v;
            bits += safe(c) ? 1 << v : 0;
        }
        return bits;
    }

    public int granary() {
        for (int cap = now.store; cap <= 40; cap++) {
            Realm c = now.copy();
            c.kind = 0;
            c.cap = cap;
            if (safe(c)) {
                return cap;
            }
        }
        return NONE;
    }

    public int least() {
        for (int store = 0; store <= now.cap; store++) {
            Realm c = now.copy();
            c.store = store;
            if (safe(c)) {
                return store;
            }
        }
        return NONE;
    }

    public int see(int y, int store) {
        if (!in(y, 1, 8) || !in(store, 0, 40)) {
            return BAD;
        }
        if (seen.size() == 6) {
            return FULL;
        }
        seen.add(new int[] {y, store});
        return seen.size();
    }

    public int forget(int n) {
        int were = seen.size();
        if (!in(n, 0, were)) {
            return BAD;
        }
        while (seen.size() > n) {
            seen.remove(n);
        }
        return were;
    }

    private boolean asSeen(int r, int kind, int v, int stolen) {
        for (int[] s : seen) {
            Realm c = now.copy();
            c.kind = kind;
            c.v = v;
            for (int y = 0; y < s[0] && !c.over(); y++) {
                c.byHim(c.fatIn(r, c.past.length()));
                c.store = c.store > stolen ? c.store - stolen : 0;
            }
            if (c.store != s[1]) {
                return false;
            }
        }
        return true;
    }

    public int stewards(int r, int what) {
        if (!isReading(r) || !in(what, 0, 1)) {
            return BAD;
        }
        List<Integer> found = new ArrayList<>();
        for (int id = 0; id < 50; id++) {
            if (asSeen(r, id / 10, id % 10, 0)) {
                found.add(id);
            }
        }
        return what == 0 ? found.size() : found.isEmpty() ? NONE : found.get(0);
    }

    public int hoards(int r) {
        if (!isReading(r)) {
            return BAD;
        }
        int bits = 0;
        for (int stolen = 0; stolen < 10; stolen++) {
            bits += asSeen(r, now.kind, now.v, stolen) ? 1 << stolen : 0;
        }
        return bits;
    }

    public int fits() {
        int bits = 0;
        for (int r = 0; r < now.dreams.size(); r++) {
            bits += asSeen(r, now.kind, now.v, 0) ? 1 << r : 0;
        }
        return bits;
    }

    public int drift(int seed, int n, int what) {
        if (!in(n, 0, 10) || !in(what, 0, 2)) {
            return BAD;
        }
        Realm c = now.copy();
        long s = seed;
        while (!c.over()) {
            s = (s * 1103515245L + 12345L) & 0xffffffffL;
            c.byHim((s >> 16) % 32768 % 10 < n ? 1 : 0);
        }
        return what == 0 ? c.starved - now.starved : what == 1 ? c.money - now.money : c.store;
    }

    public int keep(int k) {
        if (!in(k, 0, 1)) {
            return BAD;
        }
        int was = images[k] == null ? 0 : 1;
        images[k] = now.copy();
        return was;
    }

    public int back(int k) {
        if (!in(k, 0, 1)) {
            return BAD;
        }
        if (images[k] == null) {
            return STATE;
        }
        now = images[k].copy();
        return now.past.length();
    }

    public int sheet(int k, int lane, int n) {
        if (!in(k, 0, 3) || !in(lane, 0, 2) || n > 40) {
            return BAD;
        }
        if (n < 0) {
            return -14;
        }
        sheets[k] = lane == 0 ? new byte[n] : lane == 1 ? new short[n] : new int[n];
        return 1;
    }

    private static int machineFault(RuntimeException e) {
        return e instanceof NullPointerException ? 1 : e instanceof ArrayIndexOutOfBoundsException ? 2 : 3;
    }

    /** Here the machine itself finds the FAULT. */
    public int lay(int k, int i, int v) {
        if (!in(k, 0, 3)) {
            return BAD;
        }
        Object o = sheets[k];
        try {
            if (o instanceof byte[] b) {
                b[i] = (byte) v;
            } else if (o instanceof short[] s) {
                s[i] = (short) v;
            } else {
                ((int[]) o)[i] = v;
            }
            return 1;
        } catch (NullPointerException | ArrayIndexOutOfBoundsException e) {
            return -10 - machineFault(e);
        }
    }

    private static int cell(Object sheet, int lane, int at) {
        return lane == 0 ? ((byte[]) sheet)[at] : lane == 1 ? ((short[]) sheet)[at] : ((int[]) sheet)[at];
    }

    /** The row is taken as of its lane by each YEAR: with no YEARS the machine has nothing to refuse. */
    public int read(int k, int lane, int f, int n) {
        if (!in(k, 0, 3) || !in(lane, 0, 2) || !in(n, 0, 20)) {
            return BAD;
        }
        Realm before = now.copy();
        int went = 0;
        int found = 0;
        try {
            for (; went < n; went++) {
                int fat = cell(sheets[k], lane, f + 2 * went);
                int kept = cell(sheets[k], lane, f + 2 * went + 1);
                if (go(fat, kept) < 0) {
                    now = before;
                    return -20 - went;
                }
            }
        } catch (NullPointerException | ArrayIndexOutOfBoundsException | ClassCastException e) {
            found = machineFault(e);
        }
        torn = found;
        return went;
    }

    public int torn() {
        return torn;
    }

    public int count(int what) {
        switch (what) {
            case 0: return seen.size();
            case 1: return (images[0] == null ? 0 : 1) + (images[1] == null ? 0 : 1);
            case 2: return tape.length();
            case 3: return sheets[0] == null ? NONE : java.lang.reflect.Array.getLength(sheets[0]);
            case 4: return now.possible().size();
            case 5: return now.past.replace("l", "").length();
            default: return BAD;
        }
    }
}
