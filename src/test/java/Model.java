import java.util.ArrayList;
import java.util.List;

/**
 * The document told a second time, in the plainest way and with the Java library, for ModelTest.
 * Every state is a deep copy, every tree is built when it is looked at, texts are judged by listing what they may be.
 */
final class Model {
    static final class Point {
        final int reading;
        final int degree;
        final int year;

        Point(int reading, int degree, int year) {
            this.reading = reading;
            this.degree = degree;
            this.year = year;
        }
    }

    static final class Thermometer {
        int zero;
        int gain;
        int batch;
        int age;
        int crept;
        int seal = -1;
        int creptAtSeal;
        List<Point> points = new ArrayList<>();

        Thermometer copy() {
            Thermometer copy = new Thermometer();
            copy.zero = zero;
            copy.gain = gain;
            copy.batch = batch;
            copy.age = age;
            copy.crept = crept;
            copy.seal = seal;
            copy.creptAtSeal = creptAtSeal;
            copy.points = new ArrayList<>(points);
            return copy;
        }

        int reads(int degree) {
            return (int) Math.floor(degree * (1000 + gain) / 1000.0) + zero + crept;
        }

        List<Point> sorted() {
            List<Point> sorted = new ArrayList<>(points);
            sorted.sort((a, b) -> Integer.compare(a.reading, b.reading));
            return sorted;
        }

        int depthOf(Point wanted) {
            List<Point> among = points;
            int depth = 1;
            while (among.get(0) != wanted) {
                Point root = among.get(0);
                List<Point> side = new ArrayList<>();
                for (Point point : among) {
                    if (point != root && (point.reading < root.reading) == (wanted.reading < root.reading)) {
                        side.add(point);
                    }
                }
                among = side;
                depth++;
            }
            return depth;
        }

        Integer correct(int x) {
            List<Point> sorted = sorted();
            int size = sorted.size();
            if (size < 2) {
                return null;
            }
            int below = 0;
            for (Point point : sorted) {
                below += point.reading <= x ? 1 : 0;
            }
            int low = below == 0 ? 0 : below == size ? size - 2 : below - 1;
            long r = sorted.get(low).reading;
            long d = sorted.get(low).degree;
            long s = sorted.get(low + 1).reading;
            long e = sorted.get(low + 1).degree;
            return (int) (d + Math.floorDiv((e - d) * (x - r), s - r));
        }

        Integer overlap(Thermometer other, int degree) {
            Integer mine = correct(reads(degree));
            Integer theirs = other.correct(other.reads(degree));
            return mine == null || theirs == null ? null : Math.abs(mine - theirs);
        }

        Point of(int degree) {
            for (Point point : points) {
                if (point.degree == degree) {
                    return point;
                }
            }
            return null;
        }
    }

    static final class State {
        int year;
        int seals;
        int stopPart = -1;
        int stopReason = -1;
        int[] baths = {0, 1000, 370, -100};
        int[] settings = {12, 6, 20, 0, 2, 4, 10};
        List<Thermometer> all = new ArrayList<>();

        State copy() {
            State copy = new State();
            copy.year = year;
            copy.seals = seals;
            copy.stopPart = stopPart;
            copy.stopReason = stopReason;
            copy.baths = baths.clone();
            copy.settings = settings.clone();
            for (Thermometer one : all) {
                copy.all.add(one.copy());
            }
            return copy;
        }
    }

    State now = new State();
    List<State> saved = new ArrayList<>();
    State kept;
    String buffer = "";

    private void save() {
        saved.add(now.copy());
        if (saved.size() > 6) {
            saved.remove(0);
        }
    }

    private void index(boolean good) {
        if (!good) {
            throw new IndexOutOfBoundsException();
        }
    }

    private void argument(boolean good) {
        if (!good) {
            throw new IllegalArgumentException();
        }
    }

    private void allowed(boolean good) {
        if (!good) {
            throw new IllegalStateException();
        }
    }

    private boolean in(int value, int least, int most) {
        return least <= value && value <= most;
    }

    private Thermometer one(int number) {
        index(in(number, 0, now.all.size() - 1));
        return now.all.get(number);
    }

    private static long none(Integer value, int more) {
        return value == null ? -1 : value + more;
    }

    private void doMake(int zero, int gain, int batch) {
        Thermometer fresh = new Thermometer();
        fresh.zero = zero;
        fresh.gain = gain;
        fresh.batch = batch;
        now.all.add(fresh);
    }

    private void doPass(int years) {
        for (int i = 0; i < years; i++) {
            for (Thermometer one : now.all) {
                one.crept += now.settings[one.batch] / (one.age + 1);
                one.age++;
            }
            now.year++;
        }
    }

    private void doMeasure(Thermometer one, int bath) {
        int degree = now.baths[bath];
        one.points.remove(one.of(degree));
        one.points.add(new Point(one.reads(degree), degree, now.year));
    }

    private void doPaper(Thermometer one) {
        one.seal = ++now.seals;
        one.creptAtSeal = one.crept;
    }

    private int whyNotMeasure(Thermometer one, int bath) {
        int degree = now.baths[bath];
        if (one.points.size() == 10 && one.of(degree) == null) {
            return 1;
        }
        int reading = one.reads(degree);
        for (Point point : one.points) {
            boolean same = point.reading == reading;
            boolean over = point.reading < reading && point.degree > degree;
            boolean under = point.reading > reading && point.degree < degree;
            if (point.degree != degree && (same || over || under)) {
                return 2;
            }
        }
        return 0;
    }

    private boolean valid(Thermometer one) {
        return one.seal > 0 && !(one.crept - one.creptAtSeal > now.settings[6]);
    }

    private int whyNoPaper(Thermometer one) {
        Point ice = one.of(0);
        Point steam = one.of(1000);
        if (ice == null || steam == null) {
            return 3;
        }
        if (now.year - Math.min(ice.year, steam.year) > now.settings[4]) {
            return 4;
        }
        if (valid(one)) {
            return 5;
        }
        for (Thermometer other : now.all) {
            Integer overlap = one.overlap(other, 500);
            if (other != one && other.batch == one.batch && valid(other) && overlap != null
                    && overlap > now.settings[5]) {
                return 6;
            }
        }
        return 0;
    }

    // ---- the face, by the number of its promise

    long call(int promise, int a, int b, int c) {
        switch (promise) {
            case 2:
                argument(in(a, -50, 50) && in(b, -50, 50) && in(c, 0, 3));
                allowed(now.all.size() < 6);
                save();
                doMake(a, b, c);
                return now.all.size() - 1;
            case 3: {
                int points = one(a).points.size();
                save();
                now.all.remove(a);
                return points;
            }
            case 4: {
                index(in(a, 0, 3));
                argument(in(b, -400, 1500));
                int before = now.baths[a];
                save();
                now.baths[a] = b;
                return before + 10000;
            }
            case 5:
                argument(in(a, 1, 20));
                save();
                doPass(a);
                return now.year;
            case 6: {
                index(in(a, 0, 6));
                argument(in(b, 0, a < 4 ? 60 : a == 4 ? 20 : 100));
                int before = now.settings[a];
                save();
                now.settings[a] = b;
                return before;
            }
            case 7:
                index(in(b, 0, 3));
                allowed(whyNotMeasure(one(a), b) == 0);
                save();
                doMeasure(one(a), b);
                return one(a).points.size();
            case 8: {
                one(a);
                argument(in(b, -400, 1500));
                save();
                return one(a).points.remove(one(a).of(b)) ? 1 : 0;
            }
            case 9:
                allowed(whyNoPaper(one(a)) == 0);
                save();
                doPaper(one(a));
                return one(a).seal;
            default:
                return promise < 18 ? textCall(promise, a) : look(promise, a, b, c);
        }
    }

    private long textCall(int promise, int a) {
        switch (promise) {
            case 10:
                argument(in(a, 33, 126));
                allowed(buffer.length() < 60);
                buffer += (char) a;
                return buffer.length();
            case 11: {
                int before = buffer.length();
                buffer = "";
                return before;
            }
            case 12:
                return Grammar.firstError(buffer);
            case 13: {
                argument(Grammar.isComplete(buffer));
                save();
                int done = work(buffer.split(";"));
                buffer = "";
                return done;
            }
            case 14:
                argument(in(a, 0, 1));
                return a == 0 ? now.stopPart : now.stopReason;
            case 15:
                allowed(!saved.isEmpty());
                now = saved.remove(saved.size() - 1);
                return saved.size();
            case 16:
                kept = now.copy();
                return now.year;
            default:
                allowed(kept != null);
                save();
                now = kept.copy();
                return now.year;
        }
    }

    private int work(String[] parts) {
        now.stopPart = -1;
        now.stopReason = -1;
        for (int part = 0; part < parts.length; part++) {
            int reason = workPart(parts[part].charAt(0), parts[part].substring(1).split("[,/:=]"));
            if (reason != 0) {
                now.stopPart = part;
                now.stopReason = reason;
                return part;
            }
        }
        return parts.length;
    }

    private int workPart(char kind, String[] words) {
        int[] numbers = new int[words.length];
        for (int i = 0; i < words.length; i++) {
            numbers[i] = Integer.parseInt(words[i]);
        }
        int reason = 0;
        boolean none = (kind == 'c' || kind == 'p') && numbers[0] >= now.all.size();
        if (none) {
            return 7;
        }
        if (kind == 'm') {
            reason = now.all.size() == 6 ? 8 : 0;
        } else if (kind == 'c') {
            reason = whyNotMeasure(one(numbers[0]), numbers[1]);
        } else if (kind == 'p') {
            reason = whyNoPaper(one(numbers[0]));
        }
        if (reason != 0) {
            return reason;
        }
        if (kind == 'm') {
            doMake(numbers[0], numbers[1], numbers[2]);
        } else if (kind == 'c') {
            doMeasure(one(numbers[0]), numbers[1]);
        } else if (kind == 'y') {
            doPass(numbers[0]);
        } else if (kind == 'p') {
            doPaper(one(numbers[0]));
        } else {
            now.baths[numbers[0]] = numbers[1];
        }
        return 0;
    }

    private long look(int promise, int a, int b, int c) {
        switch (promise) {
            case 18:
                one(a);
                argument(in(b, -400, 1500));
                return one(a).reads(b) + 10000;
            case 19:
                one(a);
                argument(in(b, -999, 1999) && in(c, 0, 1));
                return none(one(a).correct(b), 10000000);
            case 20:
                one(a);
                argument(in(b, 0, 8));
                return number(one(a), b);
            case 21: {
                Thermometer one = one(a);
                argument(b >= 0 && in(c, 0, 3));
                if (b >= one.points.size()) {
                    return -1;
                }
                Point point = one.sorted().get(b);
                return c == 0 ? point.reading + 10000 : c == 1 ? point.degree + 10000
                        : c == 2 ? point.year : one.depthOf(point);
            }
            case 22:
                argument(in(a, 0, 17));
                return count(a);
            case 23:
                index(in(b, 0, 3));
                return whyNotMeasure(one(a), b);
            case 24:
                one(a);
                one(b);
                argument(in(c, -400, 1500));
                return none(one(a).overlap(one(b), c), 0);
            case 25:
                return worst(one(a), one(b));
            case 26:
                return voidIn(one(a));
            case 27:
                return Double.doubleToLongBits(now.all.isEmpty() ? 1.0 : (double) count(3) / now.all.size());
            default:
                return digest();
        }
    }

    private long number(Thermometer one, int what) {
        int deepest = 0;
        for (Point point : one.points) {
            deepest = Math.max(deepest, one.depthOf(point));
        }
        int widest = 0;
        List<Point> sorted = one.sorted();
        for (int i = 1; i < sorted.size(); i++) {
            widest = Math.max(widest, sorted.get(i).degree - sorted.get(i - 1).degree);
        }
        long[] numbers = {one.batch, one.age, one.crept, one.points.size(), deepest, one.seal, valid(one) ? 1 : 0,
            whyNoPaper(one), widest};
        return numbers[what];
    }

    private long count(int what) {
        int points = 0;
        int valid = 0;
        int crept = 0;
        for (Thermometer one : now.all) {
            points += one.points.size();
            valid += valid(one) ? 1 : 0;
            crept += one.crept;
        }
        long[] first = {now.year, now.all.size(), points, valid, now.seals, crept};
        return what < 6 ? first[what] : what < 10 ? now.baths[what - 6] + 10000
                : what < 17 ? now.settings[what - 10] : saved.size();
    }

    private long worst(Thermometer one, Thermometer other) {
        int best = -1;
        for (int degree = 1500; degree >= -400; degree -= 100) {
            Integer here = one.overlap(other, degree);
            if (here != null && (best < 0 || here >= one.overlap(other, best - 10000))) {
                best = degree + 10000;
            }
        }
        return best;
    }

    private long voidIn(Thermometer row) {
        if (row.seal < 0) {
            return -1;
        }
        Thermometer later = row.copy();
        for (int years = 0; years <= 50; years++) {
            if (!valid(later)) {
                return years;
            }
            later.crept += now.settings[later.batch] / (later.age + 1);
            later.age++;
        }
        return -1;
    }

    private long digest() {
        List<Long> values = new ArrayList<>();
        for (int what = 0; what < 18; what++) {
            values.add(count(what));
        }
        for (int one = 0; one < now.all.size(); one++) {
            for (int what = 0; what < 9; what++) {
                values.add(look(20, one, what, 0));
            }
            for (int place = 0; place < one(one).points.size(); place++) {
                for (int what = 0; what < 4; what++) {
                    values.add(look(21, one, place, what));
                }
            }
            values.add(look(18, one, 0, 0));
            values.add(look(18, one, 1000, 0));
            for (int reading : new int[] {0, 0, 500, 500, 1100, 1100}) {
                values.add(look(19, one, reading, 0));
            }
            for (int bath = 0; bath < 4; bath++) {
                values.add(look(23, one, bath, 0));
            }
            for (int other = 0; other < now.all.size(); other++) {
                values.add(look(24, one, other, 500));
            }
            values.add(look(25, one, 0, 0));
            values.add(look(26, one, 0, 0));
        }
        values.add((long) now.stopPart);
        values.add((long) now.stopReason);
        values.add(look(27, 0, 0, 0));
        values.add((long) buffer.length());
        for (char sign : buffer.toCharArray()) {
            values.add((long) sign);
        }
        long hash = 3907;
        for (long value : values) {
            hash = 31 * hash + value;
        }
        return hash;
    }
}
