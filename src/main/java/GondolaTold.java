/**
 * Guests are rowed through the small canals and told, stroke by stroke, what they hoped not to hear.
 * ../shared/DOC.md says what each call answers; README.md tells how to use it.
 */
public final class GondolaTold {
    public static final int NONE = -1, BAD = -2, NO = -3, FULL = -4;

    private static final int PLACES = 8;
    private static final int SALUTE = 7;
    private static final int MOST_ROWERS = 3;
    private static final int MOST_GUESTS = 4;
    private static final int MOST_BYTES = 150;
    private static final int MOST_UNDONE = 8;
    private static final int MOST_STROKES = 9;
    private static final int MOST_DARK = 9;
    private static final int MOST_TONGUE = 9;
    private static final int MOST_HOPE = 40;
    private static final int LAST_KIND = 5;
    private static final int CEILING = 999;
    private static final int IMAGES = 2;
    /** The answer for a BAD number where NONE and its neighbours mean something else. */
    private static final int FAR_BAD = -10;
    private static final int NOT_SO = -5;
    private static final int FIRST_DARK = 3;

    private final Night now = new Night();
    /** Waters are read and nights tried in this one, so that neither changes what is. */
    private final Night draft = new Night();
    private final Night[] images = new Night[IMAGES];
    private final boolean[] kept = new boolean[IMAGES];
    private final byte[] text = new byte[MOST_BYTES];
    private int textLength;
    /** How many calls were refused as BAD, NO, FULL. */
    private final int[] refused = new int[3];
    private final int[] reach = new int[PLACES];
    private final Guest trial = new Guest();
    private final Ways ways = new Ways();
    private final Sharing sharing = new Sharing();
    private final Guessing guessing = new Guessing();
    private final Lamps lamps = new Lamps();
    private final Hearing hearing = new Hearing();
    private final Reader reader = new Reader();

    public GondolaTold() {
        for (int i = 0; i < IMAGES; i++) {
            images[i] = new Night();
        }
        now.begin(FIRST_DARK);
    }

    // ---- a water

    public int water(int d) {
        if (!within(d, 0, MOST_DARK)) {
            return refuseBad();
        }
        int guests = now.guestCount;
        now.begin(d);
        return guests;
    }

    public int dark(int p, int d) {
        if (!isPlace(p) || !within(d, 0, MOST_DARK)) {
            return refuseBad();
        }
        int was = now.darkness[p];
        now.darkness[p] = d;
        now.past.size = 0;
        return was;
    }

    public int canal(int a, int b, int s) {
        if (!isPlace(a) || !isPlace(b) || a == b || !within(s, 0, MOST_STROKES)) {
            return refuseBad();
        }
        int was = now.strokesBetween(a, b);
        now.dig(a, b, s);
        now.past.size = 0;
        return was;
    }

    public int rower(int kind, int tongue) {
        if (!within(kind, 0, LAST_KIND) || !within(tongue, 0, MOST_TONGUE)) {
            return refuseBad();
        }
        if (now.rowerCount >= MOST_ROWERS) {
            return refuseFull();
        }
        now.addRower(kind, tongue);
        now.past.size = 0;
        return now.rowerCount - 1;
    }

    public int guest(int kind, int hope) {
        if (!within(kind, 0, LAST_KIND) || !within(hope, 1, MOST_HOPE)) {
            return refuseBad();
        }
        if (now.guestCount >= MOST_GUESTS) {
            return refuseFull();
        }
        now.addGuest(kind, hope);
        now.past.size = 0;
        return now.guestCount - 1;
    }

    public int type(int c) {
        if (!within(c, 0, 127)) {
            return refuseBad();
        }
        if (textLength >= MOST_BYTES) {
            return refuseFull();
        }
        text[textLength] = (byte) c;
        textLength++;
        return textLength;
    }

    public int clear() {
        int had = textLength;
        textLength = 0;
        return had;
    }

    public int read() {
        int items = reader.build(draft, text, textLength);
        if (items < 0) {
            return -10 - reader.start;
        }
        now.take(draft);
        return items;
    }

    // ---- nights

    public int rows(int g, int r, int q) {
        if (!isGuest(g) || !isRower(r) || !isPlace(q)) {
            return refuseBad();
        }
        Guest guest = now.guests[g];
        if (!now.canRow(guest, q)) {
            return refuseNo();
        }
        now.past.keep(now);
        now.carry(guest, now.rowers[r], q);
        return guest.knows;
    }

    public int enters(int g) {
        if (!isGuest(g)) {
            return refuseBad();
        }
        Guest guest = now.guests[g];
        if (guest.place == 0) {
            return refuseNo();
        }
        int was = guest.place;
        now.past.keep(now);
        guest.getIn();
        return was;
    }

    public int undo() {
        if (now.past.size <= 0) {
            return refuseNo();
        }
        now.past.giveBack(now);
        return now.past.size;
    }

    public int of(int g, int what) {
        if (!isGuest(g) || !within(what, 0, 5)) {
            return refuseBad();
        }
        return now.guests[g].fact(what);
    }

    public int who(int r, int what) {
        if (!isRower(r) || !within(what, 0, 1)) {
            return refuseBad();
        }
        Rower rower = now.rowers[r];
        return what == 0 ? rower.kind : rower.tongue;
    }

    public int about(int p, int what) {
        if (!isPlace(p) || !within(what, 0, 2)) {
            return refuseBad();
        }
        switch (what) {
            case 0:
                return now.darkness[p];
            case 1:
                return now.neighbours(p);
            default:
                return now.guestsAt(p);
        }
    }

    public int strokes(int a, int b) {
        if (!isPlace(a) || !isPlace(b)) {
            return refuseBad();
        }
        return now.strokesBetween(a, b);
    }

    // ---- ways

    public int far(int a, int b) {
        if (!isPlace(a) || !isPlace(b)) {
            return refuseBad();
        }
        now.measureFrom(a, reach);
        return reach[b];
    }

    public int would(int g, int r, int q, int what) {
        if (!isGuest(g) || !isRower(r) || !isPlace(q) || !within(what, 0, 1)) {
            return refuseBad();
        }
        if (!now.canRow(now.guests[g], q)) {
            return NONE;
        }
        trial.take(now.guests[g]);
        now.carry(trial, now.rowers[r], q);
        return what == 0 ? trial.knows : trial.hurt;
    }

    public int way(int g, int r, int k) {
        if (!isGuest(g) || !isRower(r) || k < -4) {
            return refuseFarBad();
        }
        ways.search(now, now.guests[g], now.rowers[r]);
        if (ways.length == 0) {
            return NONE;
        }
        switch (k) {
            case -4:
                return ways.knows;
            case -3:
                return ways.hurt;
            case -2:
                return ways.gone;
            case -1:
                return ways.length;
            default:
                return k < ways.length ? ways.path[k] : NOT_SO;
        }
    }

    public int gentle(int g, int r) {
        if (!isGuest(g) || !isRower(r)) {
            return refuseBad();
        }
        ways.search(now, now.guests[g], now.rowers[r]);
        return ways.gentlest;
    }

    public int where(int g, int r) {
        if (!isGuest(g) || !isRower(r)) {
            return refuseFarBad();
        }
        Guest guest = now.guests[g];
        if (guest.isTold()) {
            return -3;
        }
        ways.search(now, guest, now.rowers[r]);
        if (ways.length == 0) {
            return -4;
        }
        trial.take(guest);
        for (int k = 0; k < ways.length; k++) {
            now.carry(trial, now.rowers[r], ways.path[k]);
            if (trial.isTold()) {
                return k;
            }
        }
        return NONE;
    }

    public int share(int g) {
        if (g != -3 && g != -2 && !isGuest(g)) {
            return refuseFarBad();
        }
        sharing.search(now, ways);
        if (!sharing.found) {
            return NOT_SO;
        }
        switch (g) {
            case -3:
                return sharing.knows;
            case -2:
                return sharing.hurt;
            default:
                return sharing.best[g];
        }
    }

    // ---- how long a tongue

    public int seen(int r, int d, int s, int m) {
        if (!isRower(r) || !within(d, 0, MOST_DARK) || !within(s, 0, 99) || !within(m, 0, 99)) {
            return refuseBad();
        }
        Table table = now.sightings;
        if (table.isFull()) {
            return refuseFull();
        }
        table.put(0, r);
        table.put(1, d);
        table.put(2, s);
        table.put(3, m);
        return table.keep();
    }

    public int tongues(int r) {
        return isRower(r) ? guessing.tonguesLeft(now, r) : refuseBad();
    }

    public int tell(int r) {
        return isRower(r) ? guessing.bestTelling(now, r) : refuseBad();
    }

    public int note(int g, int h, int k, int m, int d, int x) {
        if (!isGuest(g) || !within(h, 1, MOST_HOPE) || !within(k, 0, h) || !within(m, 0, 20)) {
            return refuseBad();
        }
        if (!within(d, 0, MOST_DARK) || !within(x, 0, 60)) {
            return refuseBad();
        }
        Table table = now.notes;
        if (table.isFull()) {
            return refuseFull();
        }
        table.put(0, g);
        table.put(1, h);
        table.put(2, k);
        table.put(3, m);
        table.put(4, d);
        table.put(5, x);
        return table.keep();
    }

    public int mark(int r, int t, int d, int s, int m) {
        if (!isRower(r) || !within(t, 0, MOST_TONGUE) || !within(d, 0, MOST_DARK)) {
            return refuseBad();
        }
        if (!within(s, 0, 99) || !within(m, 0, 99)) {
            return refuseBad();
        }
        Table table = now.marks;
        if (table.isFull()) {
            return refuseFull();
        }
        table.put(0, r);
        table.put(1, t);
        table.put(2, d);
        table.put(3, s);
        table.put(4, m);
        return table.keep();
    }

    public int forget(int what) {
        if (!within(what, 0, 2)) {
            return refuseBad();
        }
        Table table = what == 0 ? now.sightings : what == 1 ? now.notes : now.marks;
        int had = table.size;
        table.size = 0;
        return had;
    }

    public int is(int g) {
        return isGuest(g) ? guessing.guestKindsLeft(now, g) : refuseBad();
    }

    public int look(int g) {
        return isGuest(g) ? guessing.bestLook(now, g) : refuseBad();
    }

    public int kinds(int r) {
        return isRower(r) ? guessing.rowerKindsLeft(now, r) : refuseBad();
    }

    public int ask(int r) {
        return isRower(r) ? guessing.bestAsking(now, r) : refuseBad();
    }

    public int lamp(int g, int r, int k) {
        if (!isGuest(g) || !isRower(r) || k < NONE) {
            return refuseFarBad();
        }
        lamps.search(now.guests[g], now.rowers[r]);
        if (k == NONE) {
            return lamps.size;
        }
        return k < lamps.size ? lamps.pairs[k] : NOT_SO;
    }

    public int odds(int g, int r, int x, int c) {
        if (!isGuest(g) || !isRower(r) || !within(x, 0, MOST_HOPE) || !within(c, 0, 10)) {
            return refuseBad();
        }
        ways.search(now, now.guests[g], now.rowers[r]);
        if (ways.length == 0) {
            return refuseNo();
        }
        hearing.chance(now, now.guests[g], now.rowers[r], ways, x, c);
        return 1;
    }

    public int mean(int g, int r, int c) {
        if (!isGuest(g) || !isRower(r) || !within(c, 0, 10)) {
            return refuseBad();
        }
        ways.search(now, now.guests[g], now.rowers[r]);
        if (ways.length == 0) {
            return refuseNo();
        }
        hearing.meanHurt(now, now.guests[g], now.rowers[r], ways, c);
        return 1;
    }

    public int nights(int seed, int n) {
        if (!within(seed, 0, 999999) || !within(n, 0, 60)) {
            return refuseBad();
        }
        draft.take(now);
        long x = seed;
        for (int i = 0; i < n; i++) {
            x = (x * 1103515245L + 12345L) % 2147483648L;
            draft.pass((int) (x / 65536 % 4), (int) (x / 262144 % 3), (int) (x / 1048576 % 8));
        }
        return Integer.bitCount(draft.toldBits());
    }

    // ---- what there is

    public long part(int what) {
        if (!within(what, 0, 1)) {
            return refuseBad();
        }
        return what == 0 ? hearing.above : hearing.below;
    }

    public int image(int i) {
        if (!within(i, 0, IMAGES - 1)) {
            return refuseBad();
        }
        images[i].take(now);
        kept[i] = true;
        return 1;
    }

    public int from(int i) {
        if (!within(i, 0, IMAGES - 1)) {
            return refuseBad();
        }
        if (!kept[i]) {
            return refuseNo();
        }
        now.take(images[i]);
        return 1;
    }

    public int status(int what) {
        if (!within(what, 0, 2)) {
            refuseBad();
            return -1;
        }
        return refused[what];
    }

    public int count(int what) {
        switch (what) {
            case 0:
                return now.canalCount();
            case 1:
                return now.rowerCount;
            case 2:
                return now.guestCount;
            case 3:
                return now.toldBits();
            case 4:
                return now.sum(2);
            case 5:
                return now.sum(3);
            case 6:
                return now.sightings.size;
            case 7:
                return now.notes.size;
            case 8:
                return now.marks.size;
            case 9:
                return now.past.size;
            case 10:
                return textLength;
            default:
                return refuseBad();
        }
    }

    public long digest() {
        long h = 1847;
        for (int what = 0; what <= 10; what++) {
            h = 31 * h + count(what);
        }
        h = now.fold(h);
        h = now.sightings.fold(h);
        h = now.notes.fold(h);
        h = now.marks.fold(h);
        h = 31 * h + hearing.above;
        return 31 * h + hearing.below;
    }

    // ---- what the calls share

    private static boolean within(int value, int least, int most) {
        return value >= least && value <= most;
    }

    private static boolean isPlace(int p) {
        return within(p, 0, PLACES - 1);
    }

    private boolean isRower(int r) {
        return within(r, 0, now.rowerCount - 1);
    }

    private boolean isGuest(int g) {
        return within(g, 0, now.guestCount - 1);
    }

    private int refuseBad() {
        refused[0]++;
        return BAD;
    }

    private int refuseFarBad() {
        refused[0]++;
        return FAR_BAD;
    }

    private int refuseNo() {
        refused[1]++;
        return NO;
    }

    private int refuseFull() {
        refused[2]++;
        return FULL;
    }

    /** One who rows and tells. */
    private static final class Rower {
        int kind;
        int tongue;

        void take(Rower other) {
            kind = other.kind;
            tongue = other.tongue;
        }

        int tells(int dark, int gone) {
            return toldBy(kind, tongue, dark, gone);
        }

        /** Each kind is worked out from the one it is under. */
        static int toldBy(int kind, int tongue, int dark, int gone) {
            int plain = tongue;
            int blunt = plain + 3;
            int shy = dark < 4 ? 0 : plain;
            int winding = shy + gone / 6;
            switch (kind) {
                case 1:
                    return blunt;
                case 2:
                    return shy;
                case 3:
                    return winding;
                case 4:
                    return gone < 10 ? 0 : winding;
                case 5:
                    return gone % 2 == 0 ? blunt : Math.max(0, blunt - 2);
                default:
                    return plain;
            }
        }
    }

    /** One on the cushions, who hopes. */
    private static final class Guest {
        int kind;
        int hope;
        int knows;
        int hurt;
        int place;
        int gone;

        void take(Guest other) {
            kind = other.kind;
            hope = other.hope;
            knows = other.knows;
            hurt = other.hurt;
            place = other.place;
            gone = other.gone;
        }

        void come(int newKind, int newHope) {
            kind = newKind;
            hope = newHope;
            knows = 0;
            hurt = 0;
            getIn();
        }

        void getIn() {
            place = 0;
            gone = 0;
        }

        boolean isTold() {
            return knows >= hope;
        }

        void goTo(int q, int strokes) {
            gone = Math.min(CEILING, gone + strokes);
            place = q;
        }

        /** No one can be told more than is left to know. */
        int takenIn(int told) {
            return Math.min(told, hope - knows);
        }

        void hear(int told, int dark) {
            int m = takenIn(told);
            hurt = Math.min(CEILING, hurt + hurtOf(kind, hope, knows, m, dark));
            knows += m;
        }

        int fact(int what) {
            switch (what) {
                case 0:
                    return kind;
                case 1:
                    return hope;
                case 2:
                    return knows;
                case 3:
                    return hurt;
                case 4:
                    return place;
                default:
                    return gone;
            }
        }

        /** Each kind is worked out from the one it is under. */
        static int hurtOf(int kind, int hope, int knows, int m, int dark) {
            int plain = m;
            int proud = dark < 5 ? 2 * plain : plain;
            int soft = m != 0 ? plain + (hope - knows) / 4 : plain;
            int vain = m != 0 ? proud + 3 : proud;
            switch (kind) {
                case 1:
                    return proud;
                case 2:
                    return soft;
                case 3:
                    return vain;
                case 4:
                    return m < 3 ? 0 : vain;
                case 5:
                    return Math.min(9, soft);
                default:
                    return plain;
            }
        }
    }

    /** Rows of numbers of one width, as they come: SEEN ones, NOTES, MARKS. */
    private static final class Table {
        final int width;
        final int most;
        final int[] cells;
        int size;

        Table(int width, int most) {
            this.width = width;
            this.most = most;
            this.cells = new int[width * most];
        }

        boolean isFull() {
            return size >= most;
        }

        int cell(int row, int column) {
            return cells[row * width + column];
        }

        /** Writes into the row behind the last one, which counts once keep() is called. */
        void put(int column, int value) {
            if (size < most && column < width) {
                cells[size * width + column] = value;
            }
        }

        int keep() {
            size++;
            return size;
        }

        void take(Table other) {
            System.arraycopy(other.cells, 0, cells, 0, cells.length);
            size = other.size;
        }

        long fold(long start) {
            long h = start;
            for (int i = 0; i < size * width; i++) {
                h = 31 * h + cells[i];
            }
            return h;
        }
    }

    /** How the guests were ahead of the last ones that were rowed or got in. */
    private static final class Past {
        static final int FACTS = 4;
        static final int STEP = MOST_GUESTS * FACTS;
        final int[] cells = new int[MOST_UNDONE * STEP];
        int size;

        void keep(Night night) {
            if (size >= MOST_UNDONE) {
                System.arraycopy(cells, STEP, cells, 0, cells.length - STEP);
                size = MOST_UNDONE - 1;
            }
            for (int g = 0; g < MOST_GUESTS; g++) {
                int at = size * STEP + g * FACTS;
                Guest guest = night.guests[g];
                cells[at] = guest.knows;
                cells[at + 1] = guest.hurt;
                cells[at + 2] = guest.place;
                cells[at + 3] = guest.gone;
            }
            size++;
        }

        void giveBack(Night night) {
            if (size <= 0) {
                return;
            }
            size--;
            for (int g = 0; g < MOST_GUESTS; g++) {
                int at = size * STEP + g * FACTS;
                Guest guest = night.guests[g];
                guest.knows = cells[at];
                guest.hurt = cells[at + 1];
                guest.place = cells[at + 2];
                guest.gone = cells[at + 3];
            }
        }

        void take(Past other) {
            System.arraycopy(other.cells, 0, cells, 0, cells.length);
            size = other.size;
        }
    }

    /** All that an image keeps: the places and canals, who is there, what was seen, what may be undone. */
    private static final class Night {
        final int[] darkness = new int[PLACES];
        final int[] lengths = new int[PLACES * PLACES];
        final Rower[] rowers = new Rower[MOST_ROWERS];
        final Guest[] guests = new Guest[MOST_GUESTS];
        int rowerCount;
        int guestCount;
        final Table sightings = new Table(4, 5);
        final Table notes = new Table(6, 6);
        final Table marks = new Table(5, 6);
        final Past past = new Past();

        Night() {
            for (int r = 0; r < MOST_ROWERS; r++) {
                rowers[r] = new Rower();
            }
            for (int g = 0; g < MOST_GUESTS; g++) {
                guests[g] = new Guest();
            }
        }

        void begin(int dark) {
            for (int p = 0; p < PLACES; p++) {
                darkness[p] = dark;
            }
            for (int i = 0; i < lengths.length; i++) {
                lengths[i] = 0;
            }
            rowerCount = 0;
            guestCount = 0;
            sightings.size = 0;
            notes.size = 0;
            marks.size = 0;
            past.size = 0;
        }

        void take(Night other) {
            System.arraycopy(other.darkness, 0, darkness, 0, PLACES);
            System.arraycopy(other.lengths, 0, lengths, 0, lengths.length);
            for (int r = 0; r < MOST_ROWERS; r++) {
                rowers[r].take(other.rowers[r]);
            }
            for (int g = 0; g < MOST_GUESTS; g++) {
                guests[g].take(other.guests[g]);
            }
            rowerCount = other.rowerCount;
            guestCount = other.guestCount;
            sightings.take(other.sightings);
            notes.take(other.notes);
            marks.take(other.marks);
            past.take(other.past);
        }

        void dig(int a, int b, int s) {
            lengths[a * PLACES + b] = s;
            lengths[b * PLACES + a] = s;
        }

        int strokesBetween(int a, int b) {
            return lengths[a * PLACES + b];
        }

        void addRower(int kind, int tongue) {
            if (rowerCount < MOST_ROWERS) {
                rowers[rowerCount].kind = kind;
                rowers[rowerCount].tongue = tongue;
                rowerCount++;
            }
        }

        void addGuest(int kind, int hope) {
            if (guestCount < MOST_GUESTS) {
                guests[guestCount].come(kind, hope);
                guestCount++;
            }
        }

        boolean canRow(Guest guest, int q) {
            return guest.place != SALUTE && strokesBetween(guest.place, q) > 0;
        }

        void carry(Guest guest, Rower rower, int q) {
            guest.goTo(q, strokesBetween(guest.place, q));
            guest.hear(rower.tells(darkness[q], guest.gone), darkness[q]);
        }

        /** One night's draw: it is rowed, or one at the Salute gets in again. */
        void pass(int g, int r, int q) {
            if (g >= guestCount) {
                return;
            }
            Guest guest = guests[g];
            if (r < rowerCount && canRow(guest, q)) {
                carry(guest, rowers[r], q);
            } else if (guest.place == SALUTE) {
                guest.getIn();
            }
        }

        int neighbours(int p) {
            int bits = 0;
            for (int q = 0; q < PLACES; q++) {
                if (strokesBetween(p, q) > 0) {
                    bits |= 1 << q;
                }
            }
            return bits;
        }

        int guestsAt(int p) {
            int bits = 0;
            for (int g = 0; g < guestCount; g++) {
                if (guests[g].place == p) {
                    bits |= 1 << g;
                }
            }
            return bits;
        }

        int toldBits() {
            int bits = 0;
            for (int g = 0; g < guestCount; g++) {
                if (guests[g].isTold()) {
                    bits |= 1 << g;
                }
            }
            return bits;
        }

        int canalCount() {
            int canals = 0;
            for (int p = 0; p < PLACES; p++) {
                canals += Integer.bitCount(neighbours(p));
            }
            return canals / 2;
        }

        int sum(int what) {
            int sum = 0;
            for (int g = 0; g < guestCount; g++) {
                sum += guests[g].fact(what);
            }
            return sum;
        }

        /** Fills in the fewest strokes to each place; no fewest way is longer than there are places. */
        void measureFrom(int a, int[] reach) {
            for (int p = 0; p < PLACES; p++) {
                reach[p] = NONE;
            }
            reach[a] = 0;
            for (int round = 1; round < PLACES; round++) {
                for (int p = 0; p < PLACES; p++) {
                    shorten(p, reach);
                }
            }
        }

        private void shorten(int p, int[] reach) {
            if (reach[p] == NONE) {
                return;
            }
            for (int q = 0; q < PLACES; q++) {
                int strokes = strokesBetween(p, q);
                if (strokes > 0 && (reach[q] == NONE || reach[p] + strokes < reach[q])) {
                    reach[q] = reach[p] + strokes;
                }
            }
        }

        long fold(long start) {
            long h = start;
            for (int p = 0; p < PLACES; p++) {
                h = 31 * h + darkness[p];
            }
            for (int a = 0; a < PLACES - 1; a++) {
                for (int b = a + 1; b < PLACES; b++) {
                    h = 31 * h + strokesBetween(a, b);
                }
            }
            for (int r = 0; r < rowerCount; r++) {
                h = 31 * h + rowers[r].kind;
                h = 31 * h + rowers[r].tongue;
            }
            for (int g = 0; g < guestCount; g++) {
                for (int what = 0; what <= 5; what++) {
                    h = 31 * h + guests[g].fact(what);
                }
            }
            return h;
        }
    }

    /** Goes all ways to the Salute and keeps the best one, and the gentlest that tells all. */
    private static final class Ways {
        /** The guest as one would be behind so many places. */
        final Guest[] trail = new Guest[PLACES];
        final int[] path = new int[PLACES];
        /** How many places the best way has; 0: there is none. */
        int length;
        int knows;
        int hurt;
        int gone;
        int gentlest;

        Ways() {
            for (int i = 0; i < PLACES; i++) {
                trail[i] = new Guest();
            }
        }

        void search(Night night, Guest guest, Rower rower) {
            length = 0;
            gentlest = NONE;
            if (guest.place == SALUTE) {
                return;
            }
            trail[0].take(guest);
            explore(night, rower, 0, 1 << guest.place);
        }

        private void explore(Night night, Rower rower, int depth, int been) {
            Guest here = trail[depth];
            if (here.place == SALUTE) {
                arrive(here, depth);
                return;
            }
            if (depth + 1 >= PLACES) {
                return;
            }
            Guest next = trail[depth + 1];
            for (int q = 0; q < PLACES; q++) {
                if ((been & 1 << q) == 0 && night.canRow(here, q)) {
                    next.take(here);
                    night.carry(next, rower, q);
                    explore(night, rower, depth + 1, been | 1 << q);
                }
            }
        }

        private void arrive(Guest there, int depth) {
            if (there.isTold() && (gentlest == NONE || there.hurt < gentlest)) {
                gentlest = there.hurt;
            }
            if (length != 0 && !isBetter(there)) {
                return;
            }
            length = depth;
            knows = there.knows;
            hurt = there.hurt;
            gone = there.gone;
            for (int i = 0; i < depth; i++) {
                path[i] = trail[i + 1].place;
            }
        }

        /** Like ones are not better: the first way comes first. */
        private boolean isBetter(Guest there) {
            if (there.knows != knows) {
                return there.knows > knows;
            }
            if (there.hurt != hurt) {
                return there.hurt < hurt;
            }
            return there.gone < gone;
        }
    }

    /** Who should row whom. */
    private static final class Sharing {
        static final int MOST_EACH = 2;
        /** What each guest knows, how it hurts at the Salute by each rower; NONE: no way. */
        final int[] knowsBy = new int[MOST_GUESTS * MOST_ROWERS];
        final int[] hurtBy = new int[MOST_GUESTS * MOST_ROWERS];
        final int[] load = new int[MOST_ROWERS];
        final int[] chosen = new int[MOST_GUESTS];
        final int[] best = new int[MOST_GUESTS];
        boolean found;
        int knows;
        int hurt;

        void search(Night night, Ways ways) {
            found = false;
            for (int r = 0; r < MOST_ROWERS; r++) {
                load[r] = 0;
            }
            for (int g = 0; g < night.guestCount; g++) {
                for (int r = 0; r < night.rowerCount; r++) {
                    ways.search(night, night.guests[g], night.rowers[r]);
                    knowsBy[g * MOST_ROWERS + r] = ways.length == 0 ? NONE : ways.knows;
                    hurtBy[g * MOST_ROWERS + r] = ways.hurt;
                }
            }
            assign(night, 0, 0, 0);
        }

        private void assign(Night night, int g, int knowsSoFar, int hurtSoFar) {
            if (g >= night.guestCount || g >= MOST_GUESTS) {
                settle(knowsSoFar, hurtSoFar);
                return;
            }
            Guest guest = night.guests[g];
            if (guest.place == SALUTE) {
                chosen[g] = NONE;
                assign(night, g + 1, knowsSoFar + guest.knows, hurtSoFar + guest.hurt);
                return;
            }
            for (int r = 0; r < night.rowerCount; r++) {
                int at = g * MOST_ROWERS + r;
                if (load[r] < MOST_EACH && knowsBy[at] != NONE) {
                    chosen[g] = r;
                    load[r]++;
                    assign(night, g + 1, knowsSoFar + knowsBy[at], hurtSoFar + hurtBy[at]);
                    load[r]--;
                }
            }
        }

        private void settle(int knowsThen, int hurtThen) {
            boolean better = !found || knowsThen > knows || knowsThen == knows && hurtThen < hurt;
            if (!better) {
                return;
            }
            found = true;
            knows = knowsThen;
            hurt = hurtThen;
            System.arraycopy(chosen, 0, best, 0, MOST_GUESTS);
        }
    }

    /** What fits all that was seen, and what to try next so that the least stays open at worst. */
    private static final class Guessing {
        static final int TONGUES = 10;
        static final int KINDS = 6;
        static final int LAST_GONE = 30;
        static final int LAST_TOLD = 20;
        /** What each one that still fits would answer; NONE: it does not fit. */
        final int[] answers = new int[TONGUES];
        /** The best try so far, as 100 times how dark and the rest; NONE: none. */
        private int best;
        /** How many would stay open at worst by the best try. */
        private int fewest;

        int tonguesLeft(Night night, int r) {
            int bits = 0;
            for (int t = 0; t < TONGUES; t++) {
                if (tongueFits(night, r, t)) {
                    bits |= 1 << t;
                }
            }
            return bits;
        }

        private boolean tongueFits(Night night, int r, int tongue) {
            Table table = night.sightings;
            int kind = night.rowers[r].kind;
            for (int i = 0; i < table.size; i++) {
                if (table.cell(i, 0) == r
                        && Rower.toldBy(kind, tongue, table.cell(i, 1), table.cell(i, 2)) != table.cell(i, 3)) {
                    return false;
                }
            }
            return true;
        }

        int guestKindsLeft(Night night, int g) {
            int bits = 0;
            for (int kind = 0; kind < KINDS; kind++) {
                if (guestKindFits(night.notes, g, kind)) {
                    bits |= 1 << kind;
                }
            }
            return bits;
        }

        private boolean guestKindFits(Table table, int g, int kind) {
            for (int i = 0; i < table.size; i++) {
                if (table.cell(i, 0) != g) {
                    continue;
                }
                int hurt = Guest.hurtOf(kind, table.cell(i, 1), table.cell(i, 2), table.cell(i, 3), table.cell(i, 4));
                if (hurt != table.cell(i, 5)) {
                    return false;
                }
            }
            return true;
        }

        int rowerKindsLeft(Night night, int r) {
            int bits = 0;
            for (int kind = 0; kind < KINDS; kind++) {
                if (rowerKindFits(night.marks, r, kind)) {
                    bits |= 1 << kind;
                }
            }
            return bits;
        }

        private boolean rowerKindFits(Table table, int r, int kind) {
            for (int i = 0; i < table.size; i++) {
                if (table.cell(i, 0) != r) {
                    continue;
                }
                int told = Rower.toldBy(kind, table.cell(i, 1), table.cell(i, 2), table.cell(i, 3));
                if (told != table.cell(i, 4)) {
                    return false;
                }
            }
            return true;
        }

        int bestTelling(Night night, int r) {
            int left = tonguesLeft(night, r);
            int kind = night.rowers[r].kind;
            startOver();
            for (int dark = 0; dark <= MOST_DARK && isOpen(); dark++) {
                for (int gone = 0; gone <= LAST_GONE && isOpen(); gone++) {
                    for (int t = 0; t < TONGUES; t++) {
                        answers[t] = isIn(left, t) ? Rower.toldBy(kind, t, dark, gone) : NONE;
                    }
                    weigh(100 * dark + gone, TONGUES);
                }
            }
            return best;
        }

        int bestAsking(Night night, int r) {
            int left = rowerKindsLeft(night, r);
            int tongue = night.rowers[r].tongue;
            startOver();
            for (int dark = 0; dark <= MOST_DARK && isOpen(); dark++) {
                for (int gone = 0; gone <= LAST_GONE && isOpen(); gone++) {
                    for (int kind = 0; kind < KINDS; kind++) {
                        answers[kind] = isIn(left, kind) ? Rower.toldBy(kind, tongue, dark, gone) : NONE;
                    }
                    weigh(100 * dark + gone, KINDS);
                }
            }
            return best;
        }

        int bestLook(Night night, int g) {
            int left = guestKindsLeft(night, g);
            Guest guest = night.guests[g];
            startOver();
            for (int dark = 0; dark <= MOST_DARK && isOpen(); dark++) {
                for (int m = 0; m <= LAST_TOLD && isOpen(); m++) {
                    for (int kind = 0; kind < KINDS; kind++) {
                        answers[kind] = isIn(left, kind)
                                ? Guest.hurtOf(kind, guest.hope, guest.knows, m, dark) : NONE;
                    }
                    weigh(100 * dark + m, KINDS);
                }
            }
            return best;
        }

        private static boolean isIn(int bits, int i) {
            return (bits & 1 << i) != 0;
        }

        private void startOver() {
            best = NONE;
            fewest = TONGUES + 1;
        }

        /** No try is better than one by which each answers apart. */
        private boolean isOpen() {
            return fewest > 1;
        }

        /** Takes the try at hand for the best, if it is better than all ahead of it. */
        private void weigh(int code, int size) {
            int crowd = largestCrowd(size);
            if (crowd > 0 && crowd < fewest) {
                best = code;
                fewest = crowd;
            }
        }

        /** How many at most answer alike; 0: none fits. */
        private int largestCrowd(int size) {
            int largest = 0;
            for (int i = 0; i < size; i++) {
                if (answers[i] == NONE) {
                    continue;
                }
                int alike = 0;
                for (int j = i; j < size; j++) {
                    if (answers[j] == answers[i]) {
                        alike++;
                    }
                }
                largest = Math.max(largest, alike);
            }
            return largest;
        }
    }

    /** Two who begin to speak under one of the next lamps, or wait. */
    private static final class Lamps {
        private static final int[] DARK_UNDER = {9, 6, 3, 0};
        static final int SIZE = 4;
        final int[] hurtAt = new int[SIZE];
        /** The pairs that rest, rising. */
        final int[] pairs = new int[SIZE * SIZE];
        int size;

        void search(Guest guest, Rower rower) {
            for (int l = 0; l < SIZE; l++) {
                int dark = DARK_UNDER[l];
                int m = guest.takenIn(rower.tells(dark, guest.gone));
                hurtAt[l] = Guest.hurtOf(guest.kind, guest.hope, guest.knows, m, dark);
            }
            size = 0;
            for (int i = 0; i < SIZE; i++) {
                for (int j = 0; j < SIZE; j++) {
                    if (rests(i, j)) {
                        pairs[size] = 10 * i + j;
                        size++;
                    }
                }
            }
        }

        private boolean rests(int i, int j) {
            for (int other = 0; other < SIZE; other++) {
                if (toGuest(other, j) > toGuest(i, j) || toRower(i, other) > toRower(i, j)) {
                    return false;
                }
            }
            return true;
        }

        private int toGuest(int i, int j) {
            return 10 - hurtAt[Math.min(i, j)] - i;
        }

        private int toRower(int i, int j) {
            return 10 - hurtAt[Math.min(i, j)] - 2 * j;
        }
    }

    /** What comes of a way on which not all is heard; it holds THE FRACTION. */
    private static final class Hearing {
        final Guest trial = new Guest();
        long above = 0;
        long below = 1;

        void chance(Night night, Guest guest, Rower rower, Ways ways, int x, int c) {
            long sum = 0;
            for (int deaf = 0; deaf < 1 << ways.length; deaf++) {
                goAlong(night, guest, rower, ways, deaf);
                if (trial.knows >= x) {
                    sum += weight(ways.length, deaf, c);
                }
            }
            setFraction(sum, tenToThe(ways.length));
        }

        void meanHurt(Night night, Guest guest, Rower rower, Ways ways, int c) {
            long sum = 0;
            for (int deaf = 0; deaf < 1 << ways.length; deaf++) {
                goAlong(night, guest, rower, ways, deaf);
                sum += weight(ways.length, deaf, c) * trial.hurt;
            }
            setFraction(sum, tenToThe(ways.length));
        }

        /** The bits of deaf say at which places of the way nothing is heard. */
        private void goAlong(Night night, Guest guest, Rower rower, Ways ways, int deaf) {
            trial.take(guest);
            for (int k = 0; k < ways.length; k++) {
                int q = ways.path[k];
                if ((deaf & 1 << k) == 0) {
                    night.carry(trial, rower, q);
                } else {
                    trial.goTo(q, night.strokesBetween(trial.place, q));
                }
            }
        }

        private static long weight(int length, int deaf, int c) {
            long weight = 1;
            for (int k = 0; k < length; k++) {
                weight *= (deaf & 1 << k) == 0 ? 10 - c : c;
            }
            return weight;
        }

        private static long tenToThe(int n) {
            long power = 1;
            for (int k = 0; k < n; k++) {
                power *= 10;
            }
            return power;
        }

        private void setFraction(long newAbove, long newBelow) {
            long a = newAbove;
            long b = newBelow;
            // The remainders shrink, so 100 rounds are far more than a long ever needs.
            for (int round = 0; round < 100 && b != 0; round++) {
                long rest = a % b;
                a = b;
                b = rest;
            }
            if (a > 0) {
                above = newAbove / a;
                below = newBelow / a;
            }
        }
    }

    /** Reads a water from a text, token by token. */
    private static final class Reader {
        private static final int END = 0, WORD = 1, NUMBER = 2, STOP = 3, WRONG = 4;
        private static final int WATER = 0, DARK = 1, CANAL = 2, ROWER = 3, GUEST = 4, ROW = 5;
        /** How many numbers stand behind each word. */
        private static final int[] NUMBERS = {1, 2, 3, 2, 2, 3};

        private final int[] bytes = new int[MOST_BYTES];
        private int length;
        /** The byte that comes behind the token at hand. */
        private int at;
        /** The first byte of the token at hand; when a text is refused, its FAULT. */
        int start;
        private int token;
        private int number;
        private final int[] values = new int[3];

        /**
         * How many items there are; NONE: the token at hand can not stand there. The first item, a water, begins
         * the night anew, so nothing of what was in it matters.
         */
        int build(Night night, byte[] text, int textLength) {
            length = Math.min(textLength, MOST_BYTES);
            for (int i = 0; i < length; i++) {
                bytes[i] = text[i];
            }
            at = 0;
            advance();
            int items = 0;
            while (items < MOST_BYTES && (token != END || items == 0)) {
                if (!readItem(night, items == 0)) {
                    return NONE;
                }
                items++;
            }
            return items;
        }

        private boolean readItem(Night night, boolean first) {
            int word = wordAtHand();
            if (word == NONE || first != (word == WATER) || isOneTooMany(night, word)) {
                return false;
            }
            advance();
            for (int i = 0; i < NUMBERS[word]; i++) {
                if (token != NUMBER || !fits(night, word, i)) {
                    return false;
                }
                values[i] = number;
                advance();
            }
            if (token != STOP) {
                return false;
            }
            advance();
            apply(night, word);
            return true;
        }

        private static boolean isOneTooMany(Night night, int word) {
            return word == ROWER && night.rowerCount >= MOST_ROWERS
                    || word == GUEST && night.guestCount >= MOST_GUESTS;
        }

        /** Whether the number at hand may be the i-th behind the word. */
        private boolean fits(Night night, int word, int i) {
            switch (word) {
                case WATER:
                    return number <= MOST_DARK;
                case DARK:
                    return i == 0 ? number < PLACES : number <= MOST_DARK;
                case CANAL:
                    return fitsCanal(i);
                case ROWER:
                    return i == 0 ? number <= LAST_KIND : number <= MOST_TONGUE;
                case GUEST:
                    return i == 0 ? number <= LAST_KIND : within(number, 1, MOST_HOPE);
                default:
                    return fitsRow(night, i);
            }
        }

        private boolean fitsCanal(int i) {
            if (i == 2) {
                return number <= MOST_STROKES;
            }
            return number < PLACES && (i == 0 || number != values[0]);
        }

        private boolean fitsRow(Night night, int i) {
            switch (i) {
                case 0:
                    return number < night.guestCount;
                case 1:
                    return number < night.rowerCount;
                default:
                    return number < PLACES && night.canRow(night.guests[values[0]], number);
            }
        }

        private void apply(Night night, int word) {
            switch (word) {
                case WATER:
                    night.begin(values[0]);
                    break;
                case DARK:
                    night.darkness[values[0]] = values[1];
                    break;
                case CANAL:
                    night.dig(values[0], values[1], values[2]);
                    break;
                case ROWER:
                    night.addRower(values[0], values[1]);
                    break;
                case GUEST:
                    night.addGuest(values[0], values[1]);
                    break;
                default:
                    night.carry(night.guests[values[0]], night.rowers[values[1]], values[2]);
                    break;
            }
        }

        private int wordAtHand() {
            if (token != WORD) {
                return NONE;
            }
            if (isWord("water")) {
                return WATER;
            }
            if (isWord("dark")) {
                return DARK;
            }
            if (isWord("canal")) {
                return CANAL;
            }
            if (isWord("rower")) {
                return ROWER;
            }
            if (isWord("guest")) {
                return GUEST;
            }
            return isWord("row") ? ROW : NONE;
        }

        private boolean isWord(String word) {
            if (at - start != word.length()) {
                return false;
            }
            for (int i = 0; i < word.length(); i++) {
                if (bytes[start + i] != word.charAt(i)) {
                    return false;
                }
            }
            return true;
        }

        /** The next token comes to hand. */
        private void advance() {
            while (at < length && bytes[at] == ' ') {
                at++;
            }
            start = at;
            if (at >= length) {
                token = END;
            } else if (bytes[at] == ';') {
                token = STOP;
                at++;
            } else if (isLetter(bytes[at])) {
                token = WORD;
                while (at < length && isLetter(bytes[at])) {
                    at++;
                }
            } else if (isFigure(bytes[at])) {
                takeNumber();
            } else {
                token = WRONG;
            }
        }

        private void takeNumber() {
            number = 0;
            while (at < length && isFigure(bytes[at])) {
                // Runs of three figures or more are refused below, so the cap loses nothing.
                number = Math.min(1000, 10 * number + bytes[at] - '0');
                at++;
            }
            token = at - start <= 2 ? NUMBER : WRONG;
        }

        private static boolean isLetter(int c) {
            return within(c, 'a', 'z');
        }

        private static boolean isFigure(int c) {
            return within(c, '0', '9');
        }
    }
}
