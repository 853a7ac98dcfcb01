/**
 * A port along one quay whose courage is one spoon that is lent from hand to hand.
 * The promises are told in DOC.md; words in capitals are meant as they are there.
 */
public final class LentCourage {
    public static final int BAD = -1, STATE = -2, FULL = -3, NONE = -9;
    /** What none is, where a number may be below 0. */
    public static final int NO = -1000000;

    private static final int MOST_BYTES = 180;
    private static final int MOST_PEOPLE = 6;
    private static final int MOST_DEEDS = 8;
    private static final int MOST_STEPS = 10;
    private static final int MOST_HEARD = 6;
    private static final int IMAGES = 2;
    private static final int LAST_PLACE = 30;
    private static final int LAST_TOLD_HOUR = 99;
    private static final int LAST_HOUR = 200;
    private static final int MOST_OWED = 999;
    private static final int MOST_KEPT = 20;
    private static final int LAST_SEED = 99999;
    private static final int MOST_LOTS = 20;

    private final Text text = new Text();
    private final PortReader reader = new PortReader();
    private final Port port = new Port();
    // A faulty text must change nothing, so it is read into a port of its own.
    private final Port draft = new Port();
    private final Ledger ledger = new Ledger();
    private final Ledger[] images = new Ledger[IMAGES];
    private final boolean[] imageKept = new boolean[IMAGES];
    private final Heard heard = new Heard();
    private final Way way = new Way();
    private final Round best = new Round();
    private final SpoonCount spoonCount = new SpoonCount();
    private final Odds chances = new Odds();
    private long traced;
    // ROUND is dear to find and is asked for number by number.
    private boolean bestIsKnown;

    public LentCourage() {
        for (int i = 0; i < IMAGES; i++) {
            images[i] = new Ledger();
        }
    }

    // ---- the port

    public int type(int c) {
        if (c < 0 || c > 255) {
            return BAD;
        }
        if (text.length >= MOST_BYTES) {
            return FULL;
        }
        text.bytes[text.length] = c;
        text.length++;
        return text.length;
    }

    public int clear() {
        int bytes = text.length;
        text.length = 0;
        return bytes;
    }

    public int port() {
        int items = reader.read(text, draft);
        if (items < 0) {
            return items;
        }
        text.length = 0;
        port.copyFrom(draft);
        ledger.begin(port);
        heard.size = 0;
        for (int i = 0; i < IMAGES; i++) {
            imageKept[i] = false;
        }
        bestIsKnown = false;
        return items;
    }

    public int one(int p, int what) {
        if (!port.hasOne(p)) {
            return BAD;
        }
        Moment present = ledger.present;
        switch (what) {
            case 0: return port.home[p];
            case 1: return present.at[p];
            case 2: return present.owed[p];
            case 3: return present.careOf(p);
            default: return BAD;
        }
    }

    public int deed(int d, int what) {
        if (!port.hasDeed(d)) {
            return BAD;
        }
        switch (what) {
            case 0: return port.who[d];
            case 1: return port.place[d];
            case 2: return port.from[d];
            case 3: return port.till[d];
            case 4: return port.worth[d];
            case 5: return ledger.present.isDone(d) ? 1 : 0;
            default: return BAD;
        }
    }

    // ---- what is done

    public int lends(int p) {
        if (!port.hasOne(p)) {
            return BAD;
        }
        Moment present = ledger.present;
        if (present.holder == p || present.at[p] != present.spoonPlace(port)) {
            return STATE;
        }
        beginStep();
        int owed = present.giveAway(port.free);
        present.receive(p);
        return owed;
    }

    public int brings() {
        Moment present = ledger.present;
        if (!present.isHeld() || present.spoonPlace(port) != port.office) {
            return STATE;
        }
        beginStep();
        return present.giveAway(port.free);
    }

    public int walks(int place) {
        if (place < 0 || place > LAST_PLACE) {
            return BAD;
        }
        Moment present = ledger.present;
        int apart = Math.abs(place - present.spoonPlace(port));
        if (!present.isHeld() || apart == 0 || present.hour + apart > LAST_HOUR) {
            return STATE;
        }
        beginStep();
        present.walkTo(place, apart);
        return present.hour;
    }

    public int keeps(int n) {
        if (n < 1 || n > MOST_KEPT) {
            return BAD;
        }
        Moment present = ledger.present;
        if (!present.isHeld() || present.hour + n > LAST_HOUR) {
            return STATE;
        }
        beginStep();
        present.hour += n;
        return present.hour;
    }

    public int does(int d) {
        if (!port.hasDeed(d)) {
            return BAD;
        }
        Moment present = ledger.present;
        if (!present.canDo(port, d)) {
            return STATE;
        }
        beginStep();
        present.done |= 1 << d;
        present.fresh = false;
        return present.worthDone(port);
    }

    public int undo() {
        if (ledger.steps == 0) {
            return STATE;
        }
        ledger.undoStep();
        bestIsKnown = false;
        return ledger.steps;
    }

    public int now(int what) {
        Moment present = ledger.present;
        switch (what) {
            case 0: return present.hour;
            case 1: return present.holder;
            case 2: return present.fresh ? 1 : 0;
            case 3: return present.heldFor();
            case 4: return present.done;
            case 5: return present.worthDone(port);
            case 6: return present.owedByAll();
            default: return BAD;
        }
    }

    private void beginStep() {
        ledger.rememberStep();
        bestIsKnown = false;
    }

    // ---- rounds

    public int round(int k) {
        if (k < -3 || k >= MOST_DEEDS) {
            return BAD;
        }
        if (!bestIsKnown) {
            best.find(port, ledger.present, way);
            bestIsKnown = true;
        }
        switch (k) {
            case -1: return best.worth;
            case -2: return best.hour;
            case -3: return best.length;
            default: return k < best.length ? best.row[k] : NONE;
        }
    }

    public int spoons() {
        return spoonCount.fewest(port);
    }

    public int drawn(int seed, int n) {
        if (seed < 0 || seed > LAST_SEED || n < 0 || n > MOST_LOTS) {
            return BAD;
        }
        if (port.deeds == 0) {
            return 0;
        }
        way.begin(port, ledger.present);
        int open = ledger.present.openDeeds(port);
        int worth = 0;
        int x = seed;
        for (int i = 0; i < n; i++) {
            x = (x * 75 + 74) % 65537;
            int d = x % port.deeds;
            int hour = (open >> d & 1) == 1 ? way.hourOfNext(port, d) : NONE;
            if (hour != NONE) {
                way.add(port, d, hour);
                open &= ~(1 << d);
                worth += port.worth[d];
            }
        }
        return worth;
    }

    public int odds(int x, int k, int what) {
        if (x < 0 || x > 10 || k < 0 || k > MOST_DEEDS || what < 0 || what > 1) {
            return BAD;
        }
        int deeds = Integer.bitCount(ledger.present.openDeeds(port));
        chances.find(deeds, x, k);
        return what == 0 ? chances.upper : chances.lower;
    }

    // ---- who had it

    public int hears(int d, int hour) {
        if (!port.hasDeed(d) || hour < 0 || hour > LAST_TOLD_HOUR) {
            return BAD;
        }
        if (heard.size >= MOST_HEARD) {
            return FULL;
        }
        heard.insert(d, hour);
        return heard.size;
    }

    public int forget() {
        int size = heard.size;
        heard.size = 0;
        return size;
    }

    public int lies() {
        return heard.tooSoon(port);
    }

    public int had(int hour) {
        if (hour < 0 || hour > LAST_TOLD_HOUR) {
            return BAD;
        }
        return heard.possibleHolders(port, hour);
    }

    // ---- kinds, images

    public int mark(int kind, int p) {
        if (!port.hasOne(p)) {
            return NO;
        }
        switch (kind) {
            case 0: return markOfOne(p);
            case 1: return markOfFriend(p);
            case 2: return markOfThief(p);
            case 3: return markOfWidow(p);
            case 4: return markOfPilot(p);
            case 5: return markOfClerk(p);
            default: return NO;
        }
    }

    private int markOfOne(int p) {
        traced += 1;
        return ledger.present.careOf(p);
    }

    private int markOfFriend(int p) {
        traced += 10;
        return markOfOne(p) + ledger.present.owed[p];
    }

    private int markOfThief(int p) {
        traced += 100;
        return markOfOne(p) - ledger.present.at[p];
    }

    private int markOfWidow(int p) {
        traced += 1000;
        return markOfFriend(p) * 2;
    }

    private int markOfPilot(int p) {
        traced += 10000;
        return markOfThief(p) + p;
    }

    private int markOfClerk(int p) {
        traced += 100000;
        return markOfOne(p) + ledger.present.hour;
    }

    public int keep(int image) {
        if (image < 0 || image >= IMAGES) {
            return BAD;
        }
        images[image].copyFrom(ledger);
        imageKept[image] = true;
        return ledger.present.hour;
    }

    public int back(int image) {
        if (image < 0 || image >= IMAGES) {
            return BAD;
        }
        if (!imageKept[image]) {
            return STATE;
        }
        ledger.copyFrom(images[image]);
        bestIsKnown = false;
        return ledger.present.hour;
    }

    public int count(int what) {
        switch (what) {
            case 0: return port.people;
            case 1: return port.deeds;
            case 2: return port.office;
            case 3: return port.free;
            case 4: return heard.size;
            case 5: return ledger.steps;
            case 6: return text.length;
            default: return BAD;
        }
    }

    public long trace() {
        return traced;
    }

    /** THE TEXT, and the one TOKEN of it that is looked at. */
    private static final class Text {
        static final int END = 0, LETTERS = 1, NUMBER = 2, STOP = 3, WRONG = 4;
        static final int LAST_NUMBER = 99;

        final int[] bytes = new int[MOST_BYTES];
        int length;
        int start;
        int next;
        int sort;
        // Of a NUMBER how much, of LETTERS the letter if it is a single one, else 0.
        int value;

        void goToStart() {
            next = 0;
        }

        void readToken() {
            while (next < length && bytes[next] == ' ') {
                next++;
            }
            start = next;
            value = 0;
            if (next >= length) {
                sort = END;
            } else if (isLetter(bytes[next])) {
                readLetters();
            } else if (isDigit(bytes[next])) {
                readNumber();
            } else {
                sort = bytes[next] == ';' ? STOP : WRONG;
                next++;
            }
        }

        private void readLetters() {
            int first = bytes[next];
            while (next < length && isLetter(bytes[next])) {
                next++;
            }
            sort = LETTERS;
            value = next - start == 1 ? first : 0;
        }

        private void readNumber() {
            boolean beginsWithZero = bytes[next] == '0';
            while (next < length && isDigit(bytes[next])) {
                // A value above the limit is wrong however it goes on, and must not wrap around.
                if (value <= LAST_NUMBER) {
                    value = value * 10 + bytes[next] - '0';
                }
                next++;
            }
            boolean zeroAhead = beginsWithZero && next - start > 1;
            sort = value > LAST_NUMBER || zeroAhead ? WRONG : NUMBER;
        }

        private static boolean isLetter(int c) {
            return c >= 'a' && c <= 'z';
        }

        private static boolean isDigit(int c) {
            return c >= '0' && c <= '9';
        }
    }

    /** What a text tells: OFFICE, FREE, PEOPLE and DEEDS. */
    private static final class Port {
        static final int FIRST_OFFICE = 15, FIRST_FREE = 3;

        int office = FIRST_OFFICE;
        int free = FIRST_FREE;
        int people;
        int deeds;
        final int[] home = new int[MOST_PEOPLE];
        final int[] who = new int[MOST_DEEDS];
        final int[] place = new int[MOST_DEEDS];
        final int[] from = new int[MOST_DEEDS];
        final int[] till = new int[MOST_DEEDS];
        final int[] worth = new int[MOST_DEEDS];

        void empty() {
            office = FIRST_OFFICE;
            free = FIRST_FREE;
            people = 0;
            deeds = 0;
        }

        boolean hasOne(int p) {
            return p >= 0 && p < people;
        }

        boolean hasDeed(int d) {
            return d >= 0 && d < deeds;
        }

        void copyFrom(Port other) {
            office = other.office;
            free = other.free;
            people = other.people;
            deeds = other.deeds;
            System.arraycopy(other.home, 0, home, 0, MOST_PEOPLE);
            System.arraycopy(other.who, 0, who, 0, MOST_DEEDS);
            System.arraycopy(other.place, 0, place, 0, MOST_DEEDS);
            System.arraycopy(other.from, 0, from, 0, MOST_DEEDS);
            System.arraycopy(other.till, 0, till, 0, MOST_DEEDS);
            System.arraycopy(other.worth, 0, worth, 0, MOST_DEEDS);
        }
    }

    /**
     * Reads a text into a port. Each TOKEN is judged as soon as it is read, so that
     * FAULT is always where the text's latest TOKEN starts.
     */
    private static final class PortReader {
        static final int FAULT_BASE = -10;
        static final int MOST_FREE = 9, MOST_WORTH = 20;

        private boolean officeTold;
        private boolean freeTold;

        /** How many ITEMS, or FAULT_BASE less FAULT. */
        int read(Text text, Port told) {
            text.goToStart();
            told.empty();
            officeTold = false;
            freeTold = false;
            int items = 0;
            for (int i = 0; i <= MOST_BYTES; i++) {
                text.readToken();
                if (text.sort == Text.END) {
                    break;
                }
                if (!readItem(text, told)) {
                    return FAULT_BASE - text.start;
                }
                items++;
            }
            return items;
        }

        private boolean readItem(Text text, Port told) {
            if (text.sort != Text.LETTERS) {
                return false;
            }
            switch (text.value) {
                case 'p': return readOne(text, told);
                case 'd': return readDeed(text, told);
                case 'o': return readOffice(text, told);
                case 'f': return readFree(text, told);
                default: return false;
            }
        }

        private boolean readOne(Text text, Port told) {
            if (told.people >= MOST_PEOPLE || !readNumber(text, 0, LAST_PLACE)) {
                return false;
            }
            told.home[told.people] = text.value;
            told.people++;
            return readStop(text);
        }

        private boolean readDeed(Text text, Port told) {
            int d = told.deeds;
            if (d >= MOST_DEEDS || !readNumber(text, 0, told.people - 1)) {
                return false;
            }
            told.who[d] = text.value;
            if (!readNumber(text, 0, LAST_PLACE)) {
                return false;
            }
            told.place[d] = text.value;
            if (!readNumber(text, 0, LAST_TOLD_HOUR)) {
                return false;
            }
            told.from[d] = text.value;
            if (!readNumber(text, told.from[d], LAST_TOLD_HOUR)) {
                return false;
            }
            told.till[d] = text.value;
            if (!readNumber(text, 1, MOST_WORTH)) {
                return false;
            }
            told.worth[d] = text.value;
            told.deeds++;
            return readStop(text);
        }

        private boolean readOffice(Text text, Port told) {
            if (officeTold || !readNumber(text, 0, LAST_PLACE)) {
                return false;
            }
            officeTold = true;
            told.office = text.value;
            return readStop(text);
        }

        private boolean readFree(Text text, Port told) {
            if (freeTold || !readNumber(text, 0, MOST_FREE)) {
                return false;
            }
            freeTold = true;
            told.free = text.value;
            return readStop(text);
        }

        private static boolean readNumber(Text text, int least, int most) {
            text.readToken();
            return text.sort == Text.NUMBER && text.value >= least && text.value <= most;
        }

        private static boolean readStop(Text text) {
            text.readToken();
            return text.sort == Text.STOP;
        }
    }

    /** All that changes by what is done: what one UNDONE or an IMAGE brings back. */
    private static final class Moment {
        int hour;
        int holder = NONE;
        int since;
        boolean fresh;
        int done;
        final int[] at = new int[MOST_PEOPLE];
        final int[] lastHeld = new int[MOST_PEOPLE];
        final int[] owed = new int[MOST_PEOPLE];

        void begin(Port port) {
            hour = 0;
            holder = NONE;
            since = 0;
            fresh = false;
            done = 0;
            for (int p = 0; p < MOST_PEOPLE; p++) {
                at[p] = port.home[p];
                lastHeld[p] = 0;
                owed[p] = 0;
            }
        }

        void copyFrom(Moment other) {
            hour = other.hour;
            holder = other.holder;
            since = other.since;
            fresh = other.fresh;
            done = other.done;
            System.arraycopy(other.at, 0, at, 0, MOST_PEOPLE);
            System.arraycopy(other.lastHeld, 0, lastHeld, 0, MOST_PEOPLE);
            System.arraycopy(other.owed, 0, owed, 0, MOST_PEOPLE);
        }

        boolean isHeld() {
            return holder >= 0;
        }

        boolean isDone(int d) {
            return (done >> d & 1) == 1;
        }

        int spoonPlace(Port port) {
            return isHeld() ? at[holder] : port.office;
        }

        int careOf(int p) {
            return p == holder ? 0 : hour - lastHeld[p];
        }

        int heldFor() {
            return isHeld() ? hour - since : 0;
        }

        /** The spoon leaves who HOLDS it: what that one OWES then. */
        int giveAway(int free) {
            int giver = holder;
            if (giver < 0) {
                return 0;
            }
            int late = Math.max(0, heldFor() - free);
            owed[giver] = Math.min(MOST_OWED, owed[giver] + late);
            lastHeld[giver] = hour;
            holder = NONE;
            fresh = false;
            return owed[giver];
        }

        void receive(int p) {
            holder = p;
            since = hour;
            fresh = true;
        }

        void walkTo(int place, int apart) {
            if (isHeld()) {
                at[holder] = place;
                hour += apart;
            }
        }

        boolean canDo(Port port, int d) {
            return isHeld() && fresh && port.who[d] == holder && at[holder] == port.place[d]
                && !isDone(d) && hour >= port.from[d] && hour <= port.till[d];
        }

        int worthDone(Port port) {
            int worth = 0;
            for (int d = 0; d < port.deeds; d++) {
                if (isDone(d)) {
                    worth += port.worth[d];
                }
            }
            return worth;
        }

        int owedByAll() {
            int all = 0;
            for (int p = 0; p < MOST_PEOPLE; p++) {
                all += owed[p];
            }
            return all;
        }

        /** DEEDS that are not DONE, as bits. */
        int openDeeds(Port port) {
            return (1 << port.deeds) - 1 & ~done;
        }
    }

    /** The present and the moments ahead of the latest steps, the oldest first. */
    private static final class Ledger {
        final Moment present = new Moment();
        final Moment[] past = new Moment[MOST_STEPS];
        int steps;

        Ledger() {
            for (int i = 0; i < MOST_STEPS; i++) {
                past[i] = new Moment();
            }
        }

        void begin(Port port) {
            present.begin(port);
            steps = 0;
        }

        void rememberStep() {
            if (steps >= MOST_STEPS) {
                loseOldest();
            }
            past[steps].copyFrom(present);
            steps++;
        }

        private void loseOldest() {
            Moment oldest = past[0];
            for (int i = 1; i < MOST_STEPS; i++) {
                past[i - 1] = past[i];
            }
            past[MOST_STEPS - 1] = oldest;
            steps = MOST_STEPS - 1;
        }

        void undoStep() {
            if (steps > 0) {
                steps--;
                present.copyFrom(past[steps]);
            }
        }

        void copyFrom(Ledger other) {
            present.copyFrom(other.present);
            steps = other.steps;
            for (int i = 0; i < steps; i++) {
                past[i].copyFrom(other.past[i]);
            }
        }
    }

    /**
     * How far a WAY has come. Only who does a DEED is thought to move: one who merely
     * hands the spoon on is looked for where he did his own.
     */
    private static final class Way {
        final int[] at = new int[MOST_PEOPLE];
        int spoon;
        int hour;
        int ahead;

        void begin(Port port, Moment present) {
            System.arraycopy(present.at, 0, at, 0, MOST_PEOPLE);
            spoon = present.spoonPlace(port);
            hour = present.hour;
            // Who HOLDS it NOW and isn't FRESH is barred just like one who did the DEED ahead.
            ahead = present.fresh ? NONE : present.holder;
        }

        /** The hour when a DEED is done as the next one; NONE, if it can't be. */
        int hourOfNext(Port port, int d) {
            int who = port.who[d];
            if (who == ahead) {
                return NONE;
            }
            int there = hour + Math.abs(spoon - at[who]) + Math.abs(at[who] - port.place[d]);
            int begun = Math.max(there, port.from[d]);
            return begun <= port.till[d] ? begun : NONE;
        }

        void add(Port port, int d, int hourDone) {
            int who = port.who[d];
            at[who] = port.place[d];
            spoon = port.place[d];
            hour = hourDone;
            ahead = who;
        }
    }

    /** ROUND: all rows are tried in the order of their numbers, so the first of equals stays. */
    private static final class Round {
        final int[] row = new int[MOST_DEEDS];
        int length;
        int worth;
        int hour;
        private final int[] tried = new int[MOST_DEEDS];

        void find(Port port, Moment present, Way way) {
            length = 0;
            worth = 0;
            hour = present.hour;
            way.begin(port, present);
            tryRows(port, way, 0, present.openDeeds(port), 0);
        }

        private void tryRows(Port port, Way way, int depth, int open, int worthSoFar) {
            if (worthSoFar > worth || worthSoFar == worth && way.hour < hour) {
                rememberRow(depth, worthSoFar, way.hour);
            }
            if (depth >= MOST_DEEDS || !canBecomeBetter(port, way, open, worthSoFar)) {
                return;
            }
            int spoon = way.spoon;
            int hourSoFar = way.hour;
            int ahead = way.ahead;
            for (int d = 0; d < port.deeds; d++) {
                int next = (open >> d & 1) == 1 ? way.hourOfNext(port, d) : NONE;
                if (next == NONE) {
                    continue;
                }
                int who = port.who[d];
                int place = way.at[who];
                tried[depth] = d;
                way.add(port, d, next);
                tryRows(port, way, depth + 1, open & ~(1 << d), worthSoFar + port.worth[d]);
                way.at[who] = place;
                way.spoon = spoon;
                way.hour = hourSoFar;
                way.ahead = ahead;
            }
        }

        private void rememberRow(int depth, int worthSoFar, int hourSoFar) {
            System.arraycopy(tried, 0, row, 0, depth);
            length = depth;
            worth = worthSoFar;
            hour = hourSoFar;
        }

        // No DEED can be done sooner than the spoon goes straight to it: rows that even then
        // would not beat the best one need not be tried.
        private boolean canBecomeBetter(Port port, Way way, int open, int worthSoFar) {
            int most = worthSoFar;
            int soonest = way.hour;
            for (int d = 0; d < port.deeds; d++) {
                if ((open >> d & 1) == 0) {
                    continue;
                }
                int straight = way.hour + Math.abs(way.spoon - port.place[d]);
                int begun = Math.max(straight, port.from[d]);
                if (begun <= port.till[d]) {
                    most += port.worth[d];
                    soonest = Math.max(soonest, begun);
                }
            }
            return most > worth || most == worth && soonest < hour;
        }
    }

    /**
     * SPOONS: each spoon does a chain of DEEDS, so there are as many as DEEDS less the
     * most pairs in which one DEED follows another, each once at most on either side.
     */
    private static final class SpoonCount {
        private final int[] leader = new int[MOST_DEEDS];
        private int seen;

        int fewest(Port port) {
            for (int d = 0; d < port.deeds; d++) {
                if (!canGo(port, 0, port.office, d)) {
                    return NONE;
                }
                leader[d] = NONE;
            }
            int chains = port.deeds;
            for (int d = 0; d < port.deeds; d++) {
                seen = 0;
                if (findFollower(port, d, 0)) {
                    chains--;
                }
            }
            return chains;
        }

        private boolean findFollower(Port port, int d, int depth) {
            if (d < 0 || depth > MOST_DEEDS) {
                return false;
            }
            for (int other = 0; other < port.deeds; other++) {
                if ((seen >> other & 1) == 1 || !canFollow(port, d, other)) {
                    continue;
                }
                seen |= 1 << other;
                if (leader[other] == NONE || findFollower(port, leader[other], depth + 1)) {
                    leader[other] = d;
                    return true;
                }
            }
            return false;
        }

        private static boolean canFollow(Port port, int d, int other) {
            int later = port.from[other] - port.from[d];
            boolean inOrder = later > 0 || later == 0 && other > d;
            return inOrder && port.who[other] != port.who[d]
                && canGo(port, port.from[d], port.place[d], other);
        }

        private static boolean canGo(Port port, int hour, int place, int d) {
            int home = port.home[port.who[d]];
            return hour + Math.abs(place - home) + Math.abs(home - port.place[d]) <= port.from[d];
        }
    }

    /** ODDS: in how many of 10, 10 times 10 .. ways few enough DEEDS fail, in least terms. */
    private static final class Odds {
        int upper;
        int lower;
        private final int[] ways = new int[MOST_DEEDS + 1];

        void find(int deeds, int x, int k) {
            countWays(deeds, x);
            upper = 0;
            for (int failed = 0; failed <= k && failed <= deeds; failed++) {
                upper += ways[failed];
            }
            lower = 1;
            for (int i = 0; i < deeds; i++) {
                lower *= 10;
            }
            takeOut(2, deeds);
            takeOut(5, deeds);
        }

        private void countWays(int deeds, int x) {
            ways[0] = 1;
            for (int told = 1; told <= deeds; told++) {
                ways[told] = ways[told - 1] * x;
                for (int failed = told - 1; failed > 0; failed--) {
                    ways[failed] = ways[failed] * (10 - x) + ways[failed - 1] * x;
                }
                ways[0] *= 10 - x;
            }
        }

        // The lower number is a power of 10, so 2 and 5 are all that can be taken out.
        private void takeOut(int factor, int times) {
            for (int i = 0; i < times && factor > 0 && upper % factor == 0; i++) {
                upper /= factor;
                lower /= factor;
            }
        }
    }

    /** What was HEARD, in a row by hours. */
    private static final class Heard {
        int size;
        private final int[] deed = new int[MOST_HEARD];
        private final int[] hour = new int[MOST_HEARD];

        void insert(int d, int when) {
            if (size >= MOST_HEARD) {
                return;
            }
            int i = size;
            for (; i > 0 && hour[i - 1] > when; i--) {
                deed[i] = deed[i - 1];
                hour[i] = hour[i - 1];
            }
            deed[i] = d;
            hour[i] = when;
            size++;
        }

        int tooSoon(Port port) {
            int lies = 0;
            for (int i = 1; i < size; i++) {
                int apart = Math.abs(port.place[deed[i]] - port.place[deed[i - 1]]);
                if (apart > hour[i] - hour[i - 1]) {
                    lies++;
                }
            }
            return lies;
        }

        int possibleHolders(Port port, int when) {
            int latest = latestBy(when);
            int earliest = earliestFrom(when);
            int bits = whoDid(port, latest) | whoDid(port, earliest);
            for (int p = 0; p < port.people; p++) {
                int home = port.home[p];
                if (isNear(port, latest, home, when) && isNear(port, earliest, home, when)) {
                    bits |= 1 << p;
                }
            }
            return bits;
        }

        private int latestBy(int when) {
            int latest = NONE;
            for (int i = 0; i < size && hour[i] <= when; i++) {
                latest = i;
            }
            return latest;
        }

        private int earliestFrom(int when) {
            int earliest = NONE;
            for (int i = size - 1; i >= 0 && hour[i] >= when; i--) {
                earliest = i;
            }
            return earliest;
        }

        private int whoDid(Port port, int i) {
            return i < 0 ? 0 : 1 << port.who[deed[i]];
        }

        /** Whether there is time for the way between a home and one HEARD (if there is one). */
        private boolean isNear(Port port, int i, int home, int when) {
            return i < 0 || Math.abs(port.place[deed[i]] - home) <= Math.abs(hour[i] - when);
        }
    }
}
