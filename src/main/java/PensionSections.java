/**
 * A pension scheme whose members serve in sections, fall behind, bring money along and retire.
 * The document ../shared/DOC.md promises what every call answers.
 */
public final class PensionSections {
    public static final int NONE = -1;

    private static final int SECTIONS = 3;
    private static final int LEAST_RATE = 10;
    private static final int MOST_RATE = 300;
    private static final int FIRST_RATE = 100;
    private static final int LEAST_SHARE = 20;
    private static final int MOST_SHARE = 200;
    private static final int FIRST_SHARE = 60;

    private static final int MOST_MEMBERS = 8;
    private static final int MOST_PAY = 9999;
    private static final int LEAST_AGE = 192;
    private static final int MOST_AGE = 960;
    private static final int MOST_EARLY = 120;
    private static final int LOSS_BY_MONTH = 4;

    private static final int MOST_AMOUNT = 9999999;
    private static final int MOST_FUND = 999999999;
    private static final int MOST_SERVICE = 9999;
    private static final int MOST_GONE = 9999;
    private static final int MOST_AT_ONCE = 120;
    private static final int MOST_AHEAD = 240;
    private static final int BEST_AHEAD = 12;
    private static final int DIGEST_AHEAD = 24;

    private static final int MOST_SAVED = 6;
    private static final int MOST_CODES = 60;
    private static final int LEAST_CODE = 33;
    private static final int MOST_CODE = 126;

    // A late month is kept for 60 months at most; within a month the new one comes before the old one lapses.
    private static final int LATE_ROOM = 61;

    private static final int SETTINGS = 4;
    private static final int RETIRING_AGE = 0;
    private static final int LAPSING = 1;
    private static final int INTEREST = 2;
    private static final int SERVICE_PRICE = 3;
    private static final int[] LEAST_SETTINGS = {600, 1, 0, 1};
    private static final int[] MOST_SETTINGS = {900, 60, 50, 20};
    private static final int[] FIRST_SETTINGS = {780, 12, 5, 2};

    private static final int SUMS = 6;
    private static final int IN_TIME = 0;
    private static final int FOR_LATE = 1;
    private static final int TRANSFERRED = 2;
    private static final int PENSIONS = 3;
    private static final int MISSING = 4;
    private static final int TO_LEAVERS = 5;

    private static final int SECTION_VALUES = 6;
    private static final int MEMBER_VALUES = 12;
    private static final int LATE_VALUES = 4;
    private static final int COUNTS = 8;
    private static final int IF_VALUES = 4;

    private static final long FIRST_HASH = 2897;
    private static final long EXPONENT_OF_ONE = 1023;
    private static final int FRACTION_BITS = 52;
    private static final long FRACTION_SIZE = 1L << FRACTION_BITS;

    private final Scheme now;
    // A copy on which is tried what would be, so that looks and refused texts change nothing.
    private final Scheme trial;
    private final History history;
    private final Buffer buffer;
    private final Reader reader;

    public PensionSections() {
        now = new Scheme();
        trial = new Scheme();
        history = new History();
        buffer = new Buffer();
        reader = new Reader();
    }

    // ---- sections

    public int section(int section, int rate, int share)
            throws IndexOutOfBoundsException, IllegalArgumentException {
        if (!isSection(section)) {
            throw new IndexOutOfBoundsException("there is no such section");
        }
        if (!isWithin(rate, LEAST_RATE, MOST_RATE) || !isWithin(share, LEAST_SHARE, MOST_SHARE)) {
            throw new IllegalArgumentException("rate or share is out of range");
        }
        history.save(now);
        int before = 1000 * now.rates[section] + now.shares[section];
        now.rates[section] = rate;
        now.shares[section] = share;
        return before;
    }

    public int close(int section, boolean isClosed) throws IndexOutOfBoundsException {
        if (!isSection(section)) {
            throw new IndexOutOfBoundsException("there is no such section");
        }
        history.save(now);
        int before = asNumber(now.isClosed[section]);
        now.isClosed[section] = isClosed;
        return before;
    }

    // ---- members

    public int join(int section, int pay, int age)
            throws IndexOutOfBoundsException, IllegalArgumentException, IllegalStateException {
        if (!isSection(section)) {
            throw new IndexOutOfBoundsException("there is no such section");
        }
        if (!isWithin(pay, 1, MOST_PAY) || !isWithin(age, LEAST_AGE, MOST_AGE - 1)) {
            throw new IllegalArgumentException("pay or age is out of range");
        }
        Member row = now.freeRow();
        if (row == null || now.isClosed[section]) {
            throw new IllegalStateException("the section is closed, or there are 8 members");
        }
        history.save(now);
        now.takeIn(row, section, pay, age);
        return row.number;
    }

    public int leave(int member) throws IndexOutOfBoundsException {
        Member leaver = now.find(member);
        if (leaver == null) {
            throw new IndexOutOfBoundsException("there is no such member");
        }
        history.save(now);
        return now.letGo(leaver);
    }

    public int pay(int member, int pay)
            throws IndexOutOfBoundsException, IllegalArgumentException, IllegalStateException {
        Member payer = now.find(member);
        if (payer == null) {
            throw new IndexOutOfBoundsException("there is no such member");
        }
        if (!isWithin(pay, 1, MOST_PAY)) {
            throw new IllegalArgumentException("pay is out of range");
        }
        if (payer.isRetired) {
            throw new IllegalStateException("the member is retired");
        }
        history.save(now);
        int before = payer.pay;
        payer.pay = pay;
        return before;
    }

    public int change(int member, int section) throws IndexOutOfBoundsException, IllegalStateException {
        Member mover = now.find(member);
        if (mover == null || !isSection(section)) {
            throw new IndexOutOfBoundsException("there is no such member or section");
        }
        if (mover.isRetired || mover.section == section || now.isClosed[section]) {
            throw new IllegalStateException("the member is retired or there already, or the section is closed");
        }
        history.save(now);
        int before = mover.section;
        mover.section = section;
        return before;
    }

    public int fallBehind(int member, boolean isBehind) throws IndexOutOfBoundsException {
        Member payer = now.find(member);
        if (payer == null) {
            throw new IndexOutOfBoundsException("there is no such member");
        }
        history.save(now);
        int before = asNumber(payer.isBehind);
        payer.isBehind = isBehind;
        return before;
    }

    public int payLate(int member, int amount)
            throws IndexOutOfBoundsException, IllegalArgumentException, IllegalStateException {
        Member payer = now.find(member);
        if (payer == null) {
            throw new IndexOutOfBoundsException("there is no such member");
        }
        if (!isWithin(amount, 1, MOST_AMOUNT)) {
            throw new IllegalArgumentException("amount is out of range");
        }
        if (payer.isRetired || !now.hasRoomFor(amount)) {
            throw new IllegalStateException("the member is retired, or the fund would be too large");
        }
        history.save(now);
        return now.takeForLate(payer, amount);
    }

    public int transfer(int member, int amount)
            throws IndexOutOfBoundsException, IllegalArgumentException, IllegalStateException {
        Member bringer = now.find(member);
        if (bringer == null) {
            throw new IndexOutOfBoundsException("there is no such member");
        }
        if (!isWithin(amount, 1, MOST_AMOUNT)) {
            throw new IllegalArgumentException("amount is out of range");
        }
        if (now.refusesTransfer(bringer, amount)) {
            throw new IllegalStateException("the transfer is refused");
        }
        history.save(now);
        return now.takeTransfer(bringer, amount);
    }

    public int retire(int member) throws IndexOutOfBoundsException, IllegalStateException {
        Member worker = now.find(member);
        if (worker == null) {
            throw new IndexOutOfBoundsException("there is no such member");
        }
        int early = now.monthsToRetiring(worker);
        if (worker.isRetired || early > MOST_EARLY) {
            throw new IllegalStateException("the member is retired, or too young");
        }
        history.save(now);
        now.putToRest(worker);
        if (early > 0) {
            now.retiredEarly++;
        }
        return worker.pension;
    }

    public int set(int setting, int value) throws IndexOutOfBoundsException, IllegalArgumentException {
        if (!isSetting(setting)) {
            throw new IndexOutOfBoundsException("there is no such setting");
        }
        if (!isWithin(value, LEAST_SETTINGS[setting], MOST_SETTINGS[setting])) {
            throw new IllegalArgumentException("value is out of range");
        }
        history.save(now);
        int before = now.settings[setting];
        now.settings[setting] = value;
        return before;
    }

    public int pass(int months) throws IllegalArgumentException, IllegalStateException {
        if (!isWithin(months, 1, MOST_AT_ONCE)) {
            throw new IllegalArgumentException("months is out of range");
        }
        if (now.gone + months > MOST_GONE) {
            throw new IllegalStateException("too many months would have gone");
        }
        history.save(now);
        return now.passMonths(months);
    }

    // ---- texts

    public int append(int code) throws IllegalArgumentException, IllegalStateException {
        if (!isWithin(code, LEAST_CODE, MOST_CODE)) {
            throw new IllegalArgumentException("code is out of range");
        }
        if (buffer.isFull()) {
            throw new IllegalStateException("the buffer is full");
        }
        buffer.add(code);
        return buffer.length;
    }

    public int clearBuffer() {
        int before = buffer.length;
        buffer.length = 0;
        return before;
    }

    public int firstError() {
        reader.begin();
        for (int place = 0; place < buffer.length; place++) {
            if (!reader.take(buffer.codeAt(place))) {
                return place;
            }
        }
        return buffer.length;
    }

    public int joinAll() throws IllegalArgumentException, IllegalStateException {
        if (firstError() < buffer.length || !reader.isComplete()) {
            throw new IllegalArgumentException("the buffer is not complete members as a text");
        }
        trial.copyFrom(now);
        if (!triesAllParts()) {
            throw new IllegalStateException("a member or a transfer is refused");
        }
        history.save(now);
        now.copyFrom(trial);
        buffer.length = 0;
        return now.members();
    }

    public int undo() throws IllegalStateException {
        if (history.size == 0) {
            throw new IllegalStateException("there is no saved state");
        }
        history.restore(now);
        return history.size;
    }

    // ---- looks; nothing is changed

    public int sectionOf(int section, int what) throws IndexOutOfBoundsException, IllegalArgumentException {
        if (!isSection(section)) {
            throw new IndexOutOfBoundsException("there is no such section");
        }
        switch (what) {
            case 0:
                return now.rates[section];
            case 1:
                return now.shares[section];
            case 2:
                return asNumber(now.isClosed[section]);
            case 3:
                return now.activeIn(section);
            case 4:
                return now.serviceIn(section);
            case 5:
                return now.lateIn(section);
            default:
                throw new IllegalArgumentException("what is not 0 to 5");
        }
    }

    public int member(int place, int what) throws IllegalArgumentException {
        if (place < 0 || !isWithin(what, 0, MEMBER_VALUES - 1)) {
            throw new IllegalArgumentException("place is below 0, or what is not 0 to 11");
        }
        Member found = now.memberAt(place);
        return found == null ? NONE : now.valueOf(found, what);
    }

    public int late(int member, int late, int what) throws IndexOutOfBoundsException, IllegalArgumentException {
        Member payer = now.find(member);
        if (payer == null) {
            throw new IndexOutOfBoundsException("there is no such member");
        }
        if (late < 0 || !isWithin(what, 0, LATE_VALUES - 1)) {
            throw new IllegalArgumentException("late is below 0, or what is not 0 to 3");
        }
        if (late >= payer.late.size) {
            return NONE;
        }
        switch (what) {
            case 0:
                return payer.late.monthAt(late);
            case 1:
                return payer.late.dueAt(late);
            case 2:
                return payer.late.sectionAt(late);
            default:
                return payer.late.costAt(late, now.gone, now.settings[INTEREST]);
        }
    }

    public int count(int what) throws IllegalArgumentException {
        switch (what) {
            case 0:
                return now.gone;
            case 1:
                return now.members();
            case 2:
                return now.retired();
            case 3:
                return (int) now.fund;
            case 4:
                return now.lateOfAll();
            case 5:
                return now.lapsed;
            case 6:
                return now.retiredEarly;
            case 7:
                return history.size;
            default:
                throw new IllegalArgumentException("what is not 0 to 7");
        }
    }

    public long sum(int what) throws IllegalArgumentException {
        if (!isWithin(what, 0, SUMS - 1)) {
            throw new IllegalArgumentException("what is not 0 to 5");
        }
        return now.sums[what];
    }

    public int setting(int setting) throws IndexOutOfBoundsException {
        if (!isSetting(setting)) {
            throw new IndexOutOfBoundsException("there is no such setting");
        }
        return now.settings[setting];
    }

    // ---- what would be; nothing is changed

    public long ifPassed(int months, int what) throws IllegalArgumentException {
        if (!isWithin(months, 1, MOST_AHEAD) || !isWithin(what, 0, IF_VALUES - 1)) {
            throw new IllegalArgumentException("months or what is out of range");
        }
        trial.copyFrom(now);
        int retiring = trial.passMonths(months);
        return triedValue(what, retiring);
    }

    public int pensionIn(int member, int months) throws IndexOutOfBoundsException, IllegalArgumentException {
        Member worker = now.find(member);
        if (worker == null) {
            throw new IndexOutOfBoundsException("there is no such member");
        }
        if (!isWithin(months, 0, MOST_AHEAD)) {
            throw new IllegalArgumentException("months is out of range");
        }
        return now.pensionBehind(worker, worker.section, months);
    }

    public int bestSection(int member) throws IndexOutOfBoundsException {
        Member worker = now.find(member);
        if (worker == null) {
            throw new IndexOutOfBoundsException("there is no such member");
        }
        return now.bestFor(worker);
    }

    public int fundLasts() {
        trial.copyFrom(now);
        for (int month = 1; month <= MOST_AHEAD; month++) {
            trial.passMonth();
            if (trial.sums[MISSING] > now.sums[MISSING]) {
                return month;
            }
        }
        return NONE;
    }

    public double inTime() {
        long paid = now.sums[IN_TIME] + now.sums[FOR_LATE];
        return paid == 0 ? 1.0 : (double) now.sums[IN_TIME] / (double) paid;
    }

    public long digest() {
        long hash = FIRST_HASH;
        for (int what = 0; what < COUNTS; what++) {
            hash = mixed(hash, count(what));
        }
        for (int what = 0; what < SUMS; what++) {
            hash = mixed(hash, now.sums[what]);
        }
        for (int setting = 0; setting < SETTINGS; setting++) {
            hash = mixed(hash, now.settings[setting]);
        }
        for (int section = 0; section < SECTIONS; section++) {
            for (int what = 0; what < SECTION_VALUES; what++) {
                hash = mixed(hash, sectionOf(section, what));
            }
        }
        hash = mixedMembers(hash);
        trial.copyFrom(now);
        int retiring = trial.passMonths(DIGEST_AHEAD);
        for (int what = 0; what < IF_VALUES; what++) {
            hash = mixed(hash, triedValue(what, retiring));
        }
        hash = mixed(hash, fundLasts());
        hash = mixed(hash, bitsOf(inTime()));
        hash = mixed(hash, buffer.length);
        for (int place = 0; place < buffer.length; place++) {
            hash = mixed(hash, buffer.codeAt(place));
        }
        return hash;
    }

    private long mixedMembers(long hash) {
        long result = hash;
        for (Member each : now.rows) {
            if (each.isHere) {
                for (int what = 0; what < MEMBER_VALUES; what++) {
                    result = mixed(result, now.valueOf(each, what));
                }
                result = mixedLate(result, each.late);
                result = mixed(result, now.pensionBehind(each, each.section, BEST_AHEAD));
                result = mixed(result, now.bestFor(each));
            }
        }
        return result;
    }

    private long mixedLate(long hash, LateMonths late) {
        long result = hash;
        for (int place = 0; place < late.size; place++) {
            result = mixed(result, late.monthAt(place));
            result = mixed(result, late.dueAt(place));
            result = mixed(result, late.sectionAt(place));
            result = mixed(result, late.costAt(place, now.gone, now.settings[INTEREST]));
        }
        return result;
    }

    private static long mixed(long hash, long value) {
        return 31 * hash + value;
    }

    /** The bits of a number from 0 to 1 as a double holds them; the library's own function is ruled out. */
    private static long bitsOf(double number) {
        if (number <= 0.0) {
            return 0;
        }
        double scaled = number;
        long exponent = EXPONENT_OF_ONE;
        while (scaled < 1.0 && exponent > 1) {
            scaled = scaled * 2.0;
            exponent--;
        }
        return (exponent << FRACTION_BITS) + (long) ((scaled - 1.0) * (double) FRACTION_SIZE);
    }

    private long triedValue(int what, int retiring) {
        switch (what) {
            case 0:
                return trial.fund;
            case 1:
                return retiring;
            case 2:
                return trial.lapsed - now.lapsed;
            default:
                return trial.sums[MISSING] - now.sums[MISSING];
        }
    }

    /** Takes the parts of a complete text into the trial; false if one is refused. */
    private boolean triesAllParts() {
        reader.begin();
        for (int place = 0; place < buffer.length; place++) {
            int code = buffer.codeAt(place);
            if (code == ';' && !triesPart()) {
                return false;
            }
            reader.take(code);
        }
        return triesPart();
    }

    private boolean triesPart() {
        Member row = trial.freeRow();
        if (row == null || trial.isShut(reader.section)) {
            return false;
        }
        trial.takeIn(row, reader.section, reader.pay, 12 * reader.years);
        if (reader.amount == 0) {
            return true;
        }
        if (trial.refusesTransfer(row, reader.amount)) {
            return false;
        }
        trial.takeTransfer(row, reader.amount);
        return true;
    }

    private static boolean isWithin(int value, int least, int most) {
        return value >= least && value <= most;
    }

    private static boolean isSection(int section) {
        return section >= 0 && section < SECTIONS;
    }

    private static boolean isSetting(int setting) {
        return setting >= 0 && setting < SETTINGS;
    }

    private static int asNumber(boolean isSo) {
        return isSo ? 1 : 0;
    }

    /** All that undo brings back. */
    private static final class Scheme {
        private final int[] settings = new int[SETTINGS];
        private final int[] rates = new int[SECTIONS];
        private final int[] shares = new int[SECTIONS];
        private final boolean[] isClosed = new boolean[SECTIONS];
        // The rows of those who are here come first, by ascending numbers; the others are free.
        private final Member[] rows = new Member[MOST_MEMBERS];
        private final long[] sums = new long[SUMS];
        private int nextNumber;
        private int gone;
        private long fund;
        private int lapsed;
        private int retiredEarly;

        Scheme() {
            for (int i = 0; i < SETTINGS; i++) {
                settings[i] = FIRST_SETTINGS[i];
            }
            for (int i = 0; i < SECTIONS; i++) {
                rates[i] = FIRST_RATE;
                shares[i] = FIRST_SHARE;
            }
            for (int i = 0; i < MOST_MEMBERS; i++) {
                rows[i] = new Member();
            }
        }

        void copyFrom(Scheme other) {
            System.arraycopy(other.settings, 0, settings, 0, SETTINGS);
            System.arraycopy(other.sums, 0, sums, 0, SUMS);
            for (int i = 0; i < SECTIONS; i++) {
                rates[i] = other.rates[i];
                shares[i] = other.shares[i];
                isClosed[i] = other.isClosed[i];
            }
            for (int i = 0; i < MOST_MEMBERS; i++) {
                rows[i].copyFrom(other.rows[i]);
            }
            nextNumber = other.nextNumber;
            gone = other.gone;
            fund = other.fund;
            lapsed = other.lapsed;
            retiredEarly = other.retiredEarly;
        }

        /** The member with this number; null if there is none. */
        Member find(int number) {
            for (Member each : rows) {
                if (each.isHere && each.number == number) {
                    return each;
                }
            }
            return null;
        }

        /** The member at this place by numbers; null if there are not so many. */
        Member memberAt(int place) {
            if (place < 0 || place >= MOST_MEMBERS) {
                return null;
            }
            Member row = rows[place];
            return row.isHere ? row : null;
        }

        /** A row for one more member; null if there are 8. */
        Member freeRow() {
            for (Member each : rows) {
                if (!each.isHere) {
                    return each;
                }
            }
            return null;
        }

        boolean isShut(int section) {
            return !isSection(section) || isClosed[section];
        }

        boolean hasRoomFor(int amount) {
            return fund + amount <= MOST_FUND;
        }

        void takeIn(Member row, int section, int pay, int age) {
            row.start(nextNumber, section, pay, age);
            nextNumber++;
        }

        /** Pays back what the fund has of a member's due contributions; returns that. */
        int letGo(Member leaver) {
            long back = leaver.isRetired ? 0 : Math.min(fund, contributionsOf(leaver));
            fund -= back;
            sums[TO_LEAVERS] += back;
            leaver.isHere = false;
            moveBehindAll(leaver);
            return (int) back;
        }

        private long contributionsOf(Member member) {
            long all = 0;
            for (int i = 0; i < SECTIONS; i++) {
                all += (long) member.pay * rates[i] * member.service[i] / 1000;
            }
            return all;
        }

        private void moveBehindAll(Member leaver) {
            for (int i = 0; i + 1 < MOST_MEMBERS; i++) {
                if (rows[i] == leaver) {
                    rows[i] = rows[i + 1];
                    rows[i + 1] = leaver;
                }
            }
        }

        /** Pays late months as far as the amount goes; returns what is left over. */
        int takeForLate(Member payer, int amount) {
            LateMonths late = payer.late;
            int left = amount;
            for (int n = 0; n < LATE_ROOM && late.size > 0; n++) {
                int cost = late.costAt(0, gone, settings[INTEREST]);
                if (cost > left) {
                    return left;
                }
                left -= cost;
                fund += cost;
                sums[FOR_LATE] += cost;
                payer.serve(late.sectionAt(0), 1);
                late.dropFirst();
            }
            return left;
        }

        private int monthsFor(Member bringer, int amount) {
            int price = settings[SERVICE_PRICE] * bringer.pay;
            return price > 0 ? amount / price : 0;
        }

        boolean refusesTransfer(Member bringer, int amount) {
            int service = bringer.serviceIn(bringer.section) + monthsFor(bringer, amount);
            return bringer.isRetired || isShut(bringer.section) || service > MOST_SERVICE || !hasRoomFor(amount);
        }

        /** Takes money that is brought along; returns the months of service that come by it. */
        int takeTransfer(Member bringer, int amount) {
            int months = monthsFor(bringer, amount);
            bringer.serve(bringer.section, months);
            fund += amount;
            sums[TRANSFERRED] += amount;
            return months;
        }

        int monthsToRetiring(Member worker) {
            int months = settings[RETIRING_AGE] - worker.age;
            return months > 0 ? months : 0;
        }

        void putToRest(Member worker) {
            worker.pension = pensionBehind(worker, worker.section, 0);
            worker.isRetired = true;
            worker.late.clear();
        }

        /** The pension of one who works on for so many months in this section. */
        int pensionBehind(Member worker, int section, int months) {
            if (worker.isRetired) {
                return worker.pension;
            }
            int ahead = monthsToRetiring(worker);
            int worked = Math.min(months, ahead);
            int early = ahead - worked;
            if (early > MOST_EARLY) {
                return 0;
            }
            long whole = wholePension(worker, section, worker.isBehind ? 0 : worked);
            return (int) (whole - LOSS_BY_MONTH * early * whole / 1000);
        }

        /** The pension without a loss, with so many months of service more in one section. */
        private long wholePension(Member worker, int section, int more) {
            long pension = 0;
            for (int i = 0; i < SECTIONS; i++) {
                long service = worker.service[i] + (i == section ? more : 0);
                int divisor = 12 * shares[i];
                pension += divisor > 0 ? worker.pay * service / divisor : 0;
            }
            return pension;
        }

        int bestFor(Member worker) {
            if (worker.isRetired) {
                return NONE;
            }
            int best = NONE;
            int bestPension = 0;
            int bestRate = 0;
            for (int i = 0; i < SECTIONS; i++) {
                if (i == worker.section || !isClosed[i]) {
                    int pension = pensionBehind(worker, i, BEST_AHEAD);
                    if (best == NONE || pension > bestPension || pension == bestPension && rates[i] < bestRate) {
                        best = i;
                        bestPension = pension;
                        bestRate = rates[i];
                    }
                }
            }
            return best;
        }

        /** Lets months pass; returns how many members retire in them. */
        int passMonths(int months) {
            int retiring = 0;
            for (int n = 0; n < months; n++) {
                retiring += passMonth();
            }
            return retiring;
        }

        int passMonth() {
            collectDues();
            lapseLate();
            payPensions();
            int retiring = growOlder();
            gone++;
            return retiring;
        }

        private void collectDues() {
            for (Member each : rows) {
                if (each.isActive()) {
                    int due = dueOf(each);
                    if (each.isBehind) {
                        each.late.add(gone, due, each.section);
                    } else {
                        fund += due;
                        sums[IN_TIME] += due;
                        each.serve(each.section, 1);
                    }
                }
            }
        }

        private int dueOf(Member payer) {
            int section = payer.section;
            return isSection(section) ? payer.pay * rates[section] / 1000 : 0;
        }

        private void lapseLate() {
            int lastToLapse = gone - settings[LAPSING];
            for (Member each : rows) {
                if (each.isActive()) {
                    lapsed += each.late.dropUpTo(lastToLapse);
                }
            }
        }

        private void payPensions() {
            for (Member each : rows) {
                if (each.isHere && each.isRetired) {
                    if (fund >= each.pension) {
                        fund -= each.pension;
                        sums[PENSIONS] += each.pension;
                    } else {
                        sums[MISSING] += each.pension;
                    }
                }
            }
        }

        private int growOlder() {
            int retiring = 0;
            for (Member each : rows) {
                if (each.isHere && each.age < MOST_AGE) {
                    each.age++;
                }
                if (each.isActive() && monthsToRetiring(each) == 0) {
                    putToRest(each);
                    retiring++;
                }
            }
            return retiring;
        }

        int members() {
            int found = 0;
            for (Member each : rows) {
                found += asNumber(each.isHere);
            }
            return found;
        }

        int retired() {
            int found = 0;
            for (Member each : rows) {
                found += asNumber(each.isHere && each.isRetired);
            }
            return found;
        }

        int lateOfAll() {
            int found = 0;
            for (Member each : rows) {
                found += each.isHere ? each.late.size : 0;
            }
            return found;
        }

        int activeIn(int section) {
            int found = 0;
            for (Member each : rows) {
                found += asNumber(each.isActive() && each.section == section);
            }
            return found;
        }

        int serviceIn(int section) {
            int found = 0;
            for (Member each : rows) {
                found += each.isHere ? each.serviceIn(section) : 0;
            }
            return found;
        }

        int lateIn(int section) {
            int found = 0;
            for (Member each : rows) {
                found += each.isHere ? each.late.dueIn(section) : 0;
            }
            return found;
        }

        int valueOf(Member member, int what) {
            switch (what) {
                case 0:
                    return member.number;
                case 1:
                    return member.section;
                case 2:
                    return member.pay;
                case 3:
                    return member.age;
                case 4:
                case 5:
                case 6:
                    return member.serviceIn(what - 4);
                case 7:
                    return asNumber(member.isRetired);
                case 8:
                    return member.isRetired ? member.pension : (int) wholePension(member, member.section, 0);
                case 9:
                    return asNumber(member.isBehind);
                case 10:
                    return member.late.size;
                default:
                    return member.late.costOfAll(gone, settings[INTEREST]);
            }
        }
    }

    /** A row for a member; what it holds counts only while the member is here. */
    private static final class Member {
        private final int[] service = new int[SECTIONS];
        private final LateMonths late = new LateMonths();
        private boolean isHere;
        private int number;
        private int section;
        private int pay;
        private int age;
        private boolean isRetired;
        private int pension;
        private boolean isBehind;

        void start(int itsNumber, int itsSection, int itsPay, int itsAge) {
            isHere = true;
            number = itsNumber;
            section = itsSection;
            pay = itsPay;
            age = itsAge;
            isRetired = false;
            pension = 0;
            isBehind = false;
            for (int i = 0; i < SECTIONS; i++) {
                service[i] = 0;
            }
            late.clear();
        }

        void copyFrom(Member other) {
            isHere = other.isHere;
            if (isHere) {
                number = other.number;
                section = other.section;
                pay = other.pay;
                age = other.age;
                isRetired = other.isRetired;
                pension = other.pension;
                isBehind = other.isBehind;
                System.arraycopy(other.service, 0, service, 0, SECTIONS);
                late.copyFrom(other.late);
            }
        }

        boolean isActive() {
            return isHere && !isRetired;
        }

        int serviceIn(int place) {
            return isSection(place) ? service[place] : 0;
        }

        void serve(int place, int months) {
            if (isSection(place)) {
                service[place] += months;
            }
        }
    }

    /** The late months of a member by ascending months, in a ring, since the oldest ones go first. */
    private static final class LateMonths {
        private final int[] months = new int[LATE_ROOM];
        private final int[] dues = new int[LATE_ROOM];
        private final int[] sections = new int[LATE_ROOM];
        private int first;
        private int size;

        private int slot(int place) {
            return Math.floorMod(first + place, LATE_ROOM);
        }

        int monthAt(int place) {
            return months[slot(place)];
        }

        int dueAt(int place) {
            return dues[slot(place)];
        }

        int sectionAt(int place) {
            return sections[slot(place)];
        }

        int costAt(int place, int gone, int interest) {
            int slot = slot(place);
            int due = dues[slot];
            return due + due * interest * (gone - months[slot]) / 1000;
        }

        int costOfAll(int gone, int interest) {
            int cost = 0;
            for (int place = 0; place < size; place++) {
                cost += costAt(place, gone, interest);
            }
            return cost;
        }

        int dueIn(int section) {
            int found = 0;
            for (int place = 0; place < size; place++) {
                found += asNumber(sectionAt(place) == section);
            }
            return found;
        }

        void add(int month, int due, int section) {
            if (size < LATE_ROOM) {
                int slot = slot(size);
                months[slot] = month;
                dues[slot] = due;
                sections[slot] = section;
                size++;
            }
        }

        void dropFirst() {
            if (size > 0) {
                first = slot(1);
                size--;
            }
        }

        /** Drops all that were due in this month or before; returns how many. */
        int dropUpTo(int month) {
            int before = size;
            for (int n = 0; n < before && months[slot(0)] <= month; n++) {
                first = slot(1);
                size--;
            }
            return before - size;
        }

        void clear() {
            first = 0;
            size = 0;
        }

        void copyFrom(LateMonths other) {
            System.arraycopy(other.months, 0, months, 0, LATE_ROOM);
            System.arraycopy(other.dues, 0, dues, 0, LATE_ROOM);
            System.arraycopy(other.sections, 0, sections, 0, LATE_ROOM);
            first = other.first;
            size = other.size;
        }
    }

    /** The saved states, in a ring, since the oldest one is dropped when there are too many. */
    private static final class History {
        private final Scheme[] saved = new Scheme[MOST_SAVED];
        private int first;
        private int size;

        History() {
            for (int i = 0; i < MOST_SAVED; i++) {
                saved[i] = new Scheme();
            }
        }

        void save(Scheme scheme) {
            saved[Math.floorMod(first + size, MOST_SAVED)].copyFrom(scheme);
            if (size < MOST_SAVED) {
                size++;
            } else {
                first = Math.floorMod(first + 1, MOST_SAVED);
            }
        }

        void restore(Scheme scheme) {
            if (size > 0) {
                size--;
                scheme.copyFrom(saved[Math.floorMod(first + size, MOST_SAVED)]);
            }
        }
    }

    /** The characters of the input text. */
    private static final class Buffer {
        private final char[] codes = new char[MOST_CODES];
        private int length;

        boolean isFull() {
            return length >= MOST_CODES;
        }

        void add(int code) {
            if (length >= 0 && length < MOST_CODES) {
                codes[length] = (char) code;
                length++;
            }
        }

        int codeAt(int place) {
            return place >= 0 && place < MOST_CODES ? codes[place] : 0;
        }
    }

    /** Reads members as a text, a character at a time, and holds the part that it is in. */
    private static final class Reader {
        private static final int PAY_START = 0;
        private static final int PAY = 1;
        private static final int SECTION = 2;
        private static final int AGE_MARK = 3;
        private static final int AGE_START = 4;
        private static final int AGE_END = 5;
        private static final int BEHIND_AGE = 6;
        private static final int AMOUNT_START = 7;
        private static final int AMOUNT = 8;
        private static final int LEAST_YEARS = 16;

        private int state;
        private int pay;
        private int section;
        private int years;
        private int amount;

        void begin() {
            state = PAY_START;
        }

        boolean isComplete() {
            return state == BEHIND_AGE || state == AMOUNT;
        }

        /** Takes the next character; false if it is a syntax error. */
        boolean take(int code) {
            int digit = code >= '0' && code <= '9' ? code - '0' : NONE;
            switch (state) {
                case PAY_START:
                    pay = digit;
                    amount = 0;
                    return digit >= 1 && goesTo(PAY);
                case PAY:
                    return code == 's' ? goesTo(SECTION) : takesPayDigit(digit);
                case SECTION:
                    section = digit;
                    return isSection(digit) && goesTo(AGE_MARK);
                case AGE_MARK:
                    return code == 'a' && goesTo(AGE_START);
                case AGE_START:
                    years = digit;
                    return digit >= 1 && digit <= 7 && goesTo(AGE_END);
                case AGE_END:
                    years = 10 * years + digit;
                    return digit >= 0 && years >= LEAST_YEARS && goesTo(BEHIND_AGE);
                case BEHIND_AGE:
                    return code == '+' ? goesTo(AMOUNT_START) : code == ';' && goesTo(PAY_START);
                case AMOUNT_START:
                    amount = digit;
                    return digit >= 1 && goesTo(AMOUNT);
                default:
                    return code == ';' ? goesTo(PAY_START) : takesAmountDigit(digit);
            }
        }

        private boolean goesTo(int next) {
            state = next;
            return true;
        }

        private boolean takesPayDigit(int digit) {
            if (digit < 0 || pay > 999) {
                return false;
            }
            pay = 10 * pay + digit;
            return true;
        }

        private boolean takesAmountDigit(int digit) {
            if (digit < 0 || amount > 9999) {
                return false;
            }
            amount = 10 * amount + digit;
            return true;
        }
    }
}
