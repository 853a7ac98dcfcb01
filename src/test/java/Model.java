import java.math.BigInteger;
import java.util.ArrayList;
import java.util.List;
import java.util.regex.Matcher;
import java.util.regex.Pattern;

/**
 * The document once more, written with the whole Java library and without any thrift:
 * every state is a copy, every row and every set is tried.
 */
final class Model {
    record Deed(int who, int place, int from, int till, int worth) { }

    record Rumour(int deed, int hour) { }

    record State(int hour, int holder, int since, boolean fresh, List<Integer> at,
                 List<Integer> held, List<Integer> owed, List<Integer> done) { }

    record Image(State state, List<State> past) { }

    private static final Pattern TOKEN = Pattern.compile("[a-z]+|[0-9]+|;");

    private String text = "";
    private int office = 15;
    private int free = 3;
    private List<Integer> homes = List.of();
    private List<Deed> deeds = List.of();
    private State state;
    private List<State> past = new ArrayList<>();
    private List<Rumour> heard = new ArrayList<>();
    private final Image[] images = new Image[2];
    private long trace;

    Model() {
        start();
    }

    private void start() {
        List<Integer> noughts = new ArrayList<>();
        for (int i = 0; i < homes.size(); i++) {
            noughts.add(0);
        }
        state = new State(0, -9, 0, false, homes, noughts, noughts, List.of());
        past = new ArrayList<>();
        heard = new ArrayList<>();
        images[0] = null;
        images[1] = null;
    }

    int type(int c) {
        if (c < 0 || c > 255) {
            return -1;
        }
        if (text.length() == 180) {
            return -3;
        }
        text += (char) c;
        return text.length();
    }

    int clear() {
        int length = text.length();
        text = "";
        return length;
    }

    private record Token(String word, int start) { }

    private List<Token> tokens() {
        List<Token> all = new ArrayList<>();
        int i = 0;
        while (i < text.length()) {
            if (text.charAt(i) == ' ') {
                i++;
                continue;
            }
            Matcher m = TOKEN.matcher(text).region(i, text.length());
            String word = m.lookingAt() ? m.group() : "?";
            all.add(new Token(word, i));
            i += word.length();
        }
        all.add(new Token("", text.length()));
        return all;
    }

    private static boolean isNumber(String word, int least, int most) {
        return word.matches("0|[1-9][0-9]?") && Integer.parseInt(word) >= least
            && Integer.parseInt(word) <= most;
    }

    int port() {
        List<Token> all = tokens();
        List<Integer> newHomes = new ArrayList<>();
        List<Deed> newDeeds = new ArrayList<>();
        Integer newOffice = null;
        Integer newFree = null;
        int items = 0;
        int i = 0;
        while (!all.get(i).word.isEmpty()) {
            String letter = all.get(i).word;
            boolean begins = switch (letter) {
                case "p" -> newHomes.size() < 6;
                case "d" -> newDeeds.size() < 8;
                case "o" -> newOffice == null;
                case "f" -> newFree == null;
                default -> false;
            };
            if (!begins) {
                return -10 - all.get(i).start;
            }
            int[] most = switch (letter) {
                case "p", "o" -> new int[] {30};
                case "f" -> new int[] {9};
                default -> new int[] {newHomes.size() - 1, 30, 99, 99, 20};
            };
            int[] n = new int[most.length];
            for (int j = 0; j < most.length; j++) {
                i++;
                int least = j == 3 ? n[2] : j == 4 ? 1 : 0;
                if (!isNumber(all.get(i).word, least, most[j])) {
                    return -10 - all.get(i).start;
                }
                n[j] = Integer.parseInt(all.get(i).word);
            }
            i++;
            if (!all.get(i).word.equals(";")) {
                return -10 - all.get(i).start;
            }
            i++;
            items++;
            switch (letter) {
                case "p" -> newHomes.add(n[0]);
                case "o" -> newOffice = n[0];
                case "f" -> newFree = n[0];
                default -> newDeeds.add(new Deed(n[0], n[1], n[2], n[3], n[4]));
            }
        }
        text = "";
        homes = newHomes;
        deeds = newDeeds;
        office = newOffice == null ? 15 : newOffice;
        free = newFree == null ? 3 : newFree;
        start();
        return items;
    }

    private boolean noOne(int p) {
        return p < 0 || p >= homes.size();
    }

    private boolean noDeed(int d) {
        return d < 0 || d >= deeds.size();
    }

    private int care(int p) {
        return state.holder == p ? 0 : state.hour - state.held.get(p);
    }

    int one(int p, int what) {
        if (noOne(p) || what < 0 || what > 3) {
            return -1;
        }
        return new int[] {homes.get(p), state.at.get(p), state.owed.get(p), care(p)}[what];
    }

    int deed(int d, int what) {
        if (noDeed(d) || what < 0 || what > 5) {
            return -1;
        }
        Deed it = deeds.get(d);
        int done = state.done.contains(d) ? 1 : 0;
        return new int[] {it.who, it.place, it.from, it.till, it.worth, done}[what];
    }

    private void step(State next) {
        past.add(state);
        if (past.size() > 10) {
            past.remove(0);
        }
        state = next;
    }

    private static <T> List<T> with(List<T> list, int i, T value) {
        List<T> copy = new ArrayList<>(list);
        copy.set(i, value);
        return copy;
    }

    private int spoonPlace() {
        return state.holder < 0 ? office : state.at.get(state.holder);
    }

    private int handOver(int next) {
        State s = state;
        int owes = 0;
        List<Integer> owed = s.owed;
        List<Integer> held = s.held;
        if (s.holder >= 0) {
            owes = Math.min(999, owed.get(s.holder) + Math.max(0, s.hour - s.since - free));
            owed = with(owed, s.holder, owes);
            held = with(held, s.holder, s.hour);
        }
        step(new State(s.hour, next, s.hour, next >= 0, s.at, held, owed, s.done));
        return owes;
    }

    int lends(int p) {
        if (noOne(p)) {
            return -1;
        }
        if (state.holder == p || state.at.get(p) != spoonPlace()) {
            return -2;
        }
        return handOver(p);
    }

    int brings() {
        return state.holder < 0 || state.at.get(state.holder) != office ? -2 : handOver(-9);
    }

    int walks(int place) {
        if (place < 0 || place > 30) {
            return -1;
        }
        State s = state;
        if (s.holder < 0 || spoonPlace() == place || s.hour + Math.abs(spoonPlace() - place) > 200) {
            return -2;
        }
        step(new State(s.hour + Math.abs(spoonPlace() - place), s.holder, s.since, s.fresh,
            with(s.at, s.holder, place), s.held, s.owed, s.done));
        return state.hour;
    }

    int keeps(int n) {
        if (n < 1 || n > 20) {
            return -1;
        }
        State s = state;
        if (s.holder < 0 || s.hour + n > 200) {
            return -2;
        }
        step(new State(s.hour + n, s.holder, s.since, s.fresh, s.at, s.held, s.owed, s.done));
        return state.hour;
    }

    int does(int d) {
        if (noDeed(d)) {
            return -1;
        }
        State s = state;
        Deed it = deeds.get(d);
        if (s.holder != it.who || !s.fresh || spoonPlace() != it.place || s.done.contains(d)
            || s.hour < it.from || s.hour > it.till) {
            return -2;
        }
        List<Integer> done = new ArrayList<>(s.done);
        done.add(d);
        step(new State(s.hour, s.holder, s.since, false, s.at, s.held, s.owed, done));
        return now(5);
    }

    int undo() {
        if (past.isEmpty()) {
            return -2;
        }
        state = past.remove(past.size() - 1);
        return past.size();
    }

    int now(int what) {
        return switch (what) {
            case 0 -> state.hour;
            case 1 -> state.holder;
            case 2 -> state.fresh ? 1 : 0;
            case 3 -> state.holder < 0 ? 0 : state.hour - state.since;
            case 4 -> state.done.stream().mapToInt(d -> 1 << d).sum();
            case 5 -> state.done.stream().mapToInt(d -> deeds.get(d).worth).sum();
            case 6 -> state.owed.stream().mapToInt(o -> o).sum();
            default -> -1;
        };
    }

    /** The hour of the row's last DEED, walked from NOW on; -1, if there is no WAY. */
    private int hourOf(List<Integer> row) {
        int[] at = state.at.stream().mapToInt(i -> i).toArray();
        int spoon = spoonPlace();
        int hour = state.hour;
        int before = -9;
        for (int i = 0; i < row.size(); i++) {
            Deed it = deeds.get(row.get(i));
            if (it.who == before || i == 0 && it.who == state.holder && !state.fresh) {
                return -1;
            }
            hour += Math.abs(spoon - at[it.who]) + Math.abs(at[it.who] - it.place);
            hour = Math.max(hour, it.from);
            if (hour > it.till) {
                return -1;
            }
            spoon = it.place;
            at[it.who] = it.place;
            before = it.who;
        }
        return hour;
    }

    private int worthOf(List<Integer> row) {
        return row.stream().mapToInt(d -> deeds.get(d).worth).sum();
    }

    private static int compareRows(List<Integer> a, List<Integer> b) {
        for (int i = 0; i < Math.min(a.size(), b.size()); i++) {
            if (!a.get(i).equals(b.get(i))) {
                return a.get(i) - b.get(i);
            }
        }
        return a.size() - b.size();
    }

    private void tryRows(List<Integer> row, List<List<Integer>> best) {
        int hour = hourOf(row);
        if (hour < 0) {
            return;
        }
        List<Integer> so = best.get(0);
        int order = worthOf(so) - worthOf(row);
        order = order != 0 ? order : hour - hourOf(so);
        order = order != 0 ? order : compareRows(row, so);
        if (order < 0) {
            best.set(0, new ArrayList<>(row));
        }
        // Downwards, so that nothing hangs on the order in which rows are found.
        for (int d = deeds.size() - 1; d >= 0; d--) {
            if (!row.contains(d) && !state.done.contains(d)) {
                row.add(d);
                tryRows(row, best);
                row.remove(row.size() - 1);
            }
        }
    }

    int round(int k) {
        if (k < -3 || k > 7) {
            return -1;
        }
        List<List<Integer>> best = new ArrayList<>();
        best.add(List.of());
        tryRows(new ArrayList<>(), best);
        List<Integer> row = best.get(0);
        return switch (k) {
            case -1 -> worthOf(row);
            case -2 -> hourOf(row);
            case -3 -> row.size();
            default -> k < row.size() ? row.get(k) : -9;
        };
    }

    private boolean comes(int hour, int place, Deed to) {
        int home = homes.get(to.who);
        return hour + Math.abs(place - home) + Math.abs(home - to.place) <= to.from;
    }

    /** Each DEED, by FROM, is given to each spoon that can come to it, or to a new one. */
    private int assign(List<Integer> order, int i, List<Integer> lastOfSpoon) {
        if (i == order.size()) {
            return lastOfSpoon.size();
        }
        Deed it = deeds.get(order.get(i));
        lastOfSpoon.add(order.get(i));
        int fewest = assign(order, i + 1, lastOfSpoon);
        lastOfSpoon.remove(lastOfSpoon.size() - 1);
        for (int s = 0; s < lastOfSpoon.size(); s++) {
            int last = lastOfSpoon.get(s);
            Deed before = deeds.get(last);
            if (before.who != it.who && comes(before.from, before.place, it)) {
                lastOfSpoon.set(s, order.get(i));
                fewest = Math.min(fewest, assign(order, i + 1, lastOfSpoon));
                lastOfSpoon.set(s, last);
            }
        }
        return fewest;
    }

    int spoons() {
        List<Integer> order = new ArrayList<>();
        for (int d = 0; d < deeds.size(); d++) {
            if (!comes(0, office, deeds.get(d))) {
                return -9;
            }
            order.add(d);
        }
        order.sort((a, b) -> deeds.get(a).from - deeds.get(b).from);
        return assign(order, 0, new ArrayList<>());
    }

    int drawn(int seed, int n) {
        if (seed < 0 || seed > 99999 || n < 0 || n > 20) {
            return -1;
        }
        List<Integer> row = new ArrayList<>();
        long x = seed;
        for (int i = 0; i < n && !deeds.isEmpty(); i++) {
            x = (x * 75 + 74) % 65537;
            int d = (int) (x % deeds.size());
            if (!row.contains(d) && !state.done.contains(d)) {
                row.add(d);
                if (hourOf(row) < 0) {
                    row.remove(row.size() - 1);
                }
            }
        }
        return worthOf(row);
    }

    int odds(int x, int k, int what) {
        if (x < 0 || x > 10 || k < 0 || k > 8 || what < 0 || what > 1) {
            return -1;
        }
        int open = deeds.size() - state.done.size();
        BigInteger upper = BigInteger.ZERO;
        for (int failed = 0; failed < 1 << open; failed++) {
            int fail = Integer.bitCount(failed);
            if (fail <= k) {
                upper = upper.add(BigInteger.valueOf(x).pow(fail)
                    .multiply(BigInteger.valueOf(10 - x).pow(open - fail)));
            }
        }
        BigInteger lower = BigInteger.TEN.pow(open);
        return (what == 0 ? upper : lower).divide(upper.gcd(lower)).intValueExact();
    }

    int hears(int d, int hour) {
        if (noDeed(d) || hour < 0 || hour > 99) {
            return -1;
        }
        if (heard.size() == 6) {
            return -3;
        }
        heard.add(new Rumour(d, hour));
        return heard.size();
    }

    int forget() {
        int size = heard.size();
        heard.clear();
        return size;
    }

    private List<Rumour> rumours() {
        List<Rumour> row = new ArrayList<>(heard);
        row.sort((a, b) -> a.hour - b.hour);
        return row;
    }

    private int placeOf(Rumour r) {
        return deeds.get(r.deed).place;
    }

    int lies() {
        List<Rumour> row = rumours();
        int lies = 0;
        for (int i = 1; i < row.size(); i++) {
            int apart = Math.abs(placeOf(row.get(i)) - placeOf(row.get(i - 1)));
            lies += apart > row.get(i).hour - row.get(i - 1).hour ? 1 : 0;
        }
        return lies;
    }

    int had(int hour) {
        if (hour < 0 || hour > 99) {
            return -1;
        }
        Rumour latest = null;
        Rumour earliest = null;
        for (Rumour r : rumours()) {
            latest = r.hour <= hour ? r : latest;
            earliest = earliest == null && r.hour >= hour ? r : earliest;
        }
        int bits = 0;
        for (int p = 0; p < homes.size(); p++) {
            boolean did = latest != null && deeds.get(latest.deed).who == p
                || earliest != null && deeds.get(earliest.deed).who == p;
            boolean comes = latest == null
                || latest.hour + Math.abs(placeOf(latest) - homes.get(p)) <= hour;
            boolean goes = earliest == null
                || hour + Math.abs(placeOf(earliest) - homes.get(p)) <= earliest.hour;
            bits += did || comes && goes ? 1 << p : 0;
        }
        return bits;
    }

    private int body(int kind, int p) {
        trace += new int[] {1, 10, 100, 1000, 10000, 100000}[kind];
        return switch (kind) {
            case 0 -> care(p);
            case 1 -> body(0, p) + state.owed.get(p);
            case 2 -> body(0, p) - state.at.get(p);
            case 3 -> body(1, p) * 2;
            case 4 -> body(2, p) + p;
            default -> body(0, p) + state.hour;
        };
    }

    int mark(int kind, int p) {
        return noOne(p) || kind < 0 || kind > 5 ? -1000000 : body(kind, p);
    }

    int keep(int image) {
        if (image < 0 || image > 1) {
            return -1;
        }
        images[image] = new Image(state, new ArrayList<>(past));
        return state.hour;
    }

    int back(int image) {
        if (image < 0 || image > 1) {
            return -1;
        }
        if (images[image] == null) {
            return -2;
        }
        state = images[image].state;
        past = new ArrayList<>(images[image].past);
        return state.hour;
    }

    int count(int what) {
        return switch (what) {
            case 0 -> homes.size();
            case 1 -> deeds.size();
            case 2 -> office;
            case 3 -> free;
            case 4 -> heard.size();
            case 5 -> past.size();
            case 6 -> text.length();
            default -> -1;
        };
    }

    long trace() {
        return trace;
    }
}
