import java.util.ArrayList;
import java.util.List;
import java.util.regex.Matcher;
import java.util.regex.Pattern;

/**
 * The document once more, written as plainly as the Java library allows and with nothing shared with the class:
 * states are copied whole, texts are read by a regular expression, and nothing is made fast.
 */
public final class Model {
    private static final String PART = "[1-9][0-9]{0,3}s[0-2]a(?:1[6-9]|[2-7][0-9])(?:\\+[1-9][0-9]{0,4})?";
    private static final Pattern TEXT = Pattern.compile(PART + "(?:;" + PART + ")*");
    private static final Pattern FIELDS = Pattern.compile("([0-9]+)s([0-2])a([0-9]+)(?:\\+([0-9]+))?");
    private static final int[][] RANGES = {{600, 900}, {1, 60}, {0, 50}, {1, 20}};

    private static final class Late {
        final int month;
        final int due;
        final int section;

        Late(int month, int due, int section) {
            this.month = month;
            this.due = due;
            this.section = section;
        }

        int cost(State s) {
            return due + Math.floorDiv(due * s.settings[2] * (s.gone - month), 1000);
        }
    }

    private static final class Person {
        int number;
        int section;
        int pay;
        int age;
        long[] service = new long[3];
        boolean retired;
        boolean behind;
        long pension;
        List<Late> late = new ArrayList<>();

        Person copy() {
            Person p = new Person();
            p.number = number;
            p.section = section;
            p.pay = pay;
            p.age = age;
            p.service = service.clone();
            p.retired = retired;
            p.behind = behind;
            p.pension = pension;
            p.late = new ArrayList<>(late);
            return p;
        }
    }

    private static final class State {
        int[] rate = {100, 100, 100};
        int[] share = {60, 60, 60};
        boolean[] closed = new boolean[3];
        int[] settings = {780, 12, 5, 2};
        List<Person> people = new ArrayList<>();
        int came;
        int gone;
        long fund;
        int lapsed;
        int early;
        long[] sums = new long[6];

        State copy() {
            State s = new State();
            s.rate = rate.clone();
            s.share = share.clone();
            s.closed = closed.clone();
            s.settings = settings.clone();
            for (Person p : people) {
                s.people.add(p.copy());
            }
            s.came = came;
            s.gone = gone;
            s.fund = fund;
            s.lapsed = lapsed;
            s.early = early;
            s.sums = sums.clone();
            return s;
        }

        Person person(int number) {
            for (Person p : people) {
                if (p.number == number) {
                    return p;
                }
            }
            throw new IndexOutOfBoundsException();
        }

        long fullPension(Person p) {
            long sum = 0;
            for (int i = 0; i < 3; i++) {
                sum += Math.floorDiv(p.pay * p.service[i], 12L * share[i]);
            }
            return sum;
        }

        long pensionWithLoss(Person p) {
            long full = fullPension(p);
            int early = p.age < settings[0] ? settings[0] - p.age : 0;
            return full - Math.floorDiv(4L * early * full, 1000L);
        }

        void rest(Person p) {
            p.pension = pensionWithLoss(p);
            p.retired = true;
            p.late.clear();
        }

        int month() {
            for (Person p : people) {
                if (p.retired) {
                    continue;
                }
                int due = Math.floorDiv(p.pay * rate[p.section], 1000);
                if (p.behind) {
                    p.late.add(new Late(gone, due, p.section));
                } else {
                    fund += due;
                    sums[0] += due;
                    p.service[p.section] += 1;
                }
            }
            for (Person p : people) {
                int before = p.late.size();
                p.late.removeIf(l -> gone - l.month >= settings[1]);
                lapsed += before - p.late.size();
            }
            for (Person p : people) {
                if (p.retired && fund >= p.pension) {
                    fund -= p.pension;
                    sums[3] += p.pension;
                } else if (p.retired) {
                    sums[4] += p.pension;
                }
            }
            int retiring = 0;
            for (Person p : people) {
                p.age = Math.min(960, p.age + 1);
                if (!p.retired && p.age >= settings[0]) {
                    rest(p);
                    retiring++;
                }
            }
            gone++;
            return retiring;
        }

        int join(int section, int pay, int age) {
            if (closed[section] || people.size() == 8) {
                throw new IllegalStateException();
            }
            Person p = new Person();
            p.number = came++;
            p.section = section;
            p.pay = pay;
            p.age = age;
            people.add(p);
            return p.number;
        }

        int transfer(Person p, int amount) {
            int months = Math.floorDiv(amount, settings[3] * p.pay);
            boolean tooMuch = p.service[p.section] + months > 9999 || fund + amount > 999999999;
            if (p.retired || closed[p.section] || tooMuch) {
                throw new IllegalStateException();
            }
            p.service[p.section] += months;
            fund += amount;
            sums[2] += amount;
            return months;
        }
    }

    private State now = new State();
    private final List<State> saved = new ArrayList<>();
    private String buffer = "";

    private void save() {
        saved.add(now.copy());
        if (saved.size() > 6) {
            saved.remove(0);
        }
    }

    private static void index(boolean isFine) {
        if (!isFine) {
            throw new IndexOutOfBoundsException();
        }
    }

    private static void argument(boolean isFine) {
        if (!isFine) {
            throw new IllegalArgumentException();
        }
    }

    private static void state(boolean isFine) {
        if (!isFine) {
            throw new IllegalStateException();
        }
    }

    private static boolean in(int value, int least, int most) {
        return least <= value && value <= most;
    }

    public int section(int section, int rate, int share) {
        index(in(section, 0, 2));
        argument(in(rate, 10, 300) && in(share, 20, 200));
        save();
        int before = 1000 * now.rate[section] + now.share[section];
        now.rate[section] = rate;
        now.share[section] = share;
        return before;
    }

    public int close(int section, boolean isClosed) {
        index(in(section, 0, 2));
        save();
        boolean before = now.closed[section];
        now.closed[section] = isClosed;
        return before ? 1 : 0;
    }

    public int join(int section, int pay, int age) {
        index(in(section, 0, 2));
        argument(in(pay, 1, 9999) && in(age, 192, 959));
        State then = now.copy();
        int number = then.join(section, pay, age);
        save();
        now = then;
        return number;
    }

    public int leave(int member) {
        Person p = now.person(member);
        save();
        long back = 0;
        for (int i = 0; i < 3; i++) {
            back += p.retired ? 0 : Math.floorDiv(p.pay * now.rate[i] * p.service[i], 1000L);
        }
        back = Math.min(back, now.fund);
        now.fund -= back;
        now.sums[5] += back;
        now.people.remove(p);
        return (int) back;
    }

    public int pay(int member, int pay) {
        Person p = now.person(member);
        argument(in(pay, 1, 9999));
        state(!p.retired);
        save();
        int before = p.pay;
        p.pay = pay;
        return before;
    }

    public int change(int member, int section) {
        Person p = now.person(member);
        index(in(section, 0, 2));
        state(!p.retired && p.section != section && !now.closed[section]);
        save();
        int before = p.section;
        p.section = section;
        return before;
    }

    public int fallBehind(int member, boolean isBehind) {
        Person p = now.person(member);
        save();
        boolean before = p.behind;
        p.behind = isBehind;
        return before ? 1 : 0;
    }

    public int payLate(int member, int amount) {
        Person p = now.person(member);
        argument(in(amount, 1, 9999999));
        state(!p.retired && now.fund + amount <= 999999999);
        save();
        int left = amount;
        while (!p.late.isEmpty() && p.late.get(0).cost(now) <= left) {
            Late l = p.late.remove(0);
            left -= l.cost(now);
            now.fund += l.cost(now);
            now.sums[1] += l.cost(now);
            p.service[l.section]++;
        }
        return left;
    }

    public int transfer(int member, int amount) {
        now.person(member);
        argument(in(amount, 1, 9999999));
        State then = now.copy();
        int months = then.transfer(then.person(member), amount);
        save();
        now = then;
        return months;
    }

    public int retire(int member) {
        Person p = now.person(member);
        int early = now.settings[0] - p.age;
        state(!p.retired && early <= 120);
        save();
        now.rest(p);
        now.early += early > 0 ? 1 : 0;
        return (int) p.pension;
    }

    public int set(int setting, int value) {
        index(in(setting, 0, 3));
        argument(in(value, RANGES[setting][0], RANGES[setting][1]));
        save();
        int before = now.settings[setting];
        now.settings[setting] = value;
        return before;
    }

    public int pass(int months) {
        argument(in(months, 1, 120));
        state(now.gone + months <= 9999);
        save();
        int retiring = 0;
        for (int i = 0; i < months; i++) {
            retiring += now.month();
        }
        return retiring;
    }

    public int append(int code) {
        argument(in(code, 33, 126));
        state(buffer.length() < 60);
        buffer += (char) code;
        return buffer.length();
    }

    public int clearBuffer() {
        int before = buffer.length();
        buffer = "";
        return before;
    }

    public int firstError() {
        for (int i = 0; i < buffer.length(); i++) {
            Matcher m = TEXT.matcher(buffer.substring(0, i + 1));
            if (!m.matches() && !m.hitEnd()) {
                return i;
            }
        }
        return buffer.length();
    }

    public int joinAll() {
        argument(TEXT.matcher(buffer).matches());
        State then = now.copy();
        for (String part : buffer.split(";")) {
            Matcher m = FIELDS.matcher(part);
            m.matches();
            int number = then.join(Integer.parseInt(m.group(2)), Integer.parseInt(m.group(1)),
                12 * Integer.parseInt(m.group(3)));
            if (m.group(4) != null) {
                then.transfer(then.person(number), Integer.parseInt(m.group(4)));
            }
        }
        save();
        now = then;
        buffer = "";
        return now.people.size();
    }

    public int undo() {
        state(!saved.isEmpty());
        now = saved.remove(saved.size() - 1);
        return saved.size();
    }

    public int sectionOf(int section, int what) {
        index(in(section, 0, 2));
        argument(in(what, 0, 5));
        int active = 0;
        int service = 0;
        int late = 0;
        for (Person p : now.people) {
            active += !p.retired && p.section == section ? 1 : 0;
            service += (int) p.service[section];
            late += (int) p.late.stream().filter(l -> l.section == section).count();
        }
        int closed = now.closed[section] ? 1 : 0;
        return new int[] {now.rate[section], now.share[section], closed, active, service, late}[what];
    }

    public int member(int place, int what) {
        argument(place >= 0 && in(what, 0, 11));
        if (place >= now.people.size()) {
            return -1;
        }
        Person p = now.people.get(place);
        long pension = p.retired ? p.pension : now.fullPension(p);
        long cost = 0;
        for (Late l : p.late) {
            cost += l.cost(now);
        }
        long[] all = {p.number, p.section, p.pay, p.age, p.service[0], p.service[1], p.service[2],
            p.retired ? 1 : 0, pension, p.behind ? 1 : 0, p.late.size(), cost};
        return (int) all[what];
    }

    public int late(int member, int late, int what) {
        Person p = now.person(member);
        argument(late >= 0 && in(what, 0, 3));
        if (late >= p.late.size()) {
            return -1;
        }
        Late l = p.late.get(late);
        return new int[] {l.month, l.due, l.section, l.cost(now)}[what];
    }

    public int count(int what) {
        argument(in(what, 0, 7));
        int retired = 0;
        int late = 0;
        for (Person p : now.people) {
            retired += p.retired ? 1 : 0;
            late += p.late.size();
        }
        return new int[] {now.gone, now.people.size(), retired, (int) now.fund, late, now.lapsed, now.early,
            saved.size()}[what];
    }

    public long sum(int what) {
        argument(in(what, 0, 5));
        return now.sums[what];
    }

    public int setting(int setting) {
        index(in(setting, 0, 3));
        return now.settings[setting];
    }

    public long ifPassed(int months, int what) {
        argument(in(months, 1, 240) && in(what, 0, 3));
        State then = now.copy();
        long retiring = 0;
        for (int i = 0; i < months; i++) {
            retiring += then.month();
        }
        return new long[] {then.fund, retiring, then.lapsed - now.lapsed, then.sums[4] - now.sums[4]}[what];
    }

    public int pensionIn(int member, int months) {
        Person p = now.person(member).copy();
        argument(in(months, 0, 240));
        return pensionWorkingOn(p, months);
    }

    private int pensionWorkingOn(Person p, int months) {
        if (p.retired) {
            return (int) p.pension;
        }
        for (int i = 0; i < months && p.age < now.settings[0]; i++) {
            p.age++;
            p.service[p.section] += p.behind ? 0 : 1;
        }
        return now.settings[0] - p.age > 120 ? 0 : (int) now.pensionWithLoss(p);
    }

    public int bestSection(int member) {
        Person p = now.person(member);
        if (p.retired) {
            return -1;
        }
        List<long[]> found = new ArrayList<>();
        for (int i = 0; i < 3; i++) {
            if (p.section == i || !now.closed[i]) {
                Person there = p.copy();
                there.section = i;
                found.add(new long[] {-pensionWorkingOn(there, 12), now.rate[i], i});
            }
        }
        found.sort((a, b) -> java.util.Arrays.compare(a, b));
        return (int) found.get(0)[2];
    }

    public int fundLasts() {
        State then = now.copy();
        for (int i = 1; i <= 240; i++) {
            long before = then.sums[4];
            then.month();
            if (then.sums[4] != before) {
                return i;
            }
        }
        return -1;
    }

    public double inTime() {
        long all = now.sums[0] + now.sums[1];
        return all == 0 ? 1.0 : (double) now.sums[0] / all;
    }

    public long digest() {
        List<Long> values = new ArrayList<>();
        for (int i = 0; i < 8; i++) {
            values.add((long) count(i));
        }
        for (int i = 0; i < 6; i++) {
            values.add(sum(i));
        }
        for (int i = 0; i < 4; i++) {
            values.add((long) setting(i));
        }
        for (int i = 0; i < 18; i++) {
            values.add((long) sectionOf(i / 6, i % 6));
        }
        for (int place = 0; place < now.people.size(); place++) {
            int number = now.people.get(place).number;
            for (int i = 0; i < 12; i++) {
                values.add((long) member(place, i));
            }
            for (int i = 0; late(number, i, 0) != -1; i++) {
                for (int what = 0; what < 4; what++) {
                    values.add((long) late(number, i, what));
                }
            }
            values.add((long) pensionIn(number, 12));
            values.add((long) bestSection(number));
        }
        for (int i = 0; i < 4; i++) {
            values.add(ifPassed(24, i));
        }
        values.add((long) fundLasts());
        values.add(Double.doubleToLongBits(inTime()));
        values.add((long) buffer.length());
        for (char c : buffer.toCharArray()) {
            values.add((long) c);
        }
        long hash = 2897;
        for (long v : values) {
            hash = 31 * hash + v;
        }
        return hash;
    }
}
