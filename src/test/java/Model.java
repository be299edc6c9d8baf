import java.util.ArrayList;
import java.util.List;
import java.util.TreeMap;

/**
 * The document told once more, with the Java library and recursion and as few words as will do:
 * what ModelTest compares NestedFilters with. A value is null, a Boolean, an Integer, a List or a
 * TreeMap; an answer that is not there is NO_MORE.
 */
final class Model {
    private static final Object NO_MORE = new Object();

    private static final class Fault extends Exception {
        private static final long serialVersionUID = 1L;
    }

    private static final class Tired extends RuntimeException {
        private static final long serialVersionUID = 1L;
    }

    private interface Source {
        Object next() throws Fault;
    }

    /** family 0 leaf, 1 one, 2 two, 3 three. */
    private record Filter(int family, int op, int x, List<Filter> in) {
        int parts() {
            int many = 1;
            for (Filter f : in) {
                many += f.parts();
            }
            return many;
        }
    }

    private final List<Object> values = new ArrayList<>();
    private final List<Filter> filters = new ArrayList<>();
    private Object input = null;
    private int made = 0;
    private int counted = 0;
    private final List<Object> answers = new ArrayList<>();

    void forget() {
        values.clear();
        input = null;
        made = 0;
    }

    int value(int kind, int x) {
        if (kind < 0 || kind > 3) return NestedFilters.BAD_ARG;
        if (made == 40 || values.size() == 12) return NestedFilters.FULL;
        return push(kind == 0 ? null : kind == 1 ? (Object) false : kind == 2 ? (Object) true : (Object) x);
    }

    int array(int n) {
        if (n < 0 || n > 10) return NestedFilters.BAD_ARG;
        if (made == 40) return NestedFilters.FULL;
        if (values.size() < n) return NestedFilters.TOO_FEW;
        List<Object> taken = new ArrayList<>(values.subList(values.size() - n, values.size()));
        return replace(n, taken);
    }

    int object(int keys) {
        if (keys < 0 || keys > 255) return NestedFilters.BAD_ARG;
        if (made == 40) return NestedFilters.FULL;
        int n = Integer.bitCount(keys);
        if (values.size() < n) return NestedFilters.TOO_FEW;
        TreeMap<Integer, Object> taken = new TreeMap<>();
        int at = values.size() - n;
        for (int k = 0; k < 8; k++) if ((keys & 1 << k) != 0) taken.put(k, values.get(at++));
        return replace(n, taken);
    }

    private int replace(int n, Object taken) {
        if (values.size() - n + 1 == 13) return NestedFilters.FULL;
        if (depth(taken) > 4) return NestedFilters.FULL;
        for (int i = 0; i < n; i++) values.remove(values.size() - 1);
        return push(taken);
    }

    private int push(Object v) {
        made++;
        values.add(v);
        return values.size();
    }

    int input() {
        if (values.isEmpty()) return NestedFilters.TOO_FEW;
        input = values.remove(values.size() - 1);
        return values.size();
    }

    int leaf(int op, int x) {
        if (op < 0 || op > 15) return NestedFilters.BAD_ARG;
        if (op == 5 && (x < 0 || x > 7)) return NestedFilters.BAD_ARG;
        if (op == 6 && (x < -10 || x > 9)) return NestedFilters.BAD_ARG;
        if (op == 13 && (x < 0 || x > 2)) return NestedFilters.BAD_ARG;
        if (filters.size() == 8) return NestedFilters.FULL;
        return push(0, op, x);
    }

    int one(int op, int x) {
        if (op < 0 || op > 4) return NestedFilters.BAD_ARG;
        if (op == 2 && (x < 0 || x > 9)) return NestedFilters.BAD_ARG;
        if (op == 4 && (x < 0 || x > 7)) return NestedFilters.BAD_ARG;
        return push(1, op, x);
    }

    int two(int op, int x) {
        if (op < 0 || op > 12) return NestedFilters.BAD_ARG;
        if (op == 12 && (x < 0 || x > 2)) return NestedFilters.BAD_ARG;
        return push(2, op, x);
    }

    int three(int op, int x) {
        if (op < 0 || op > 1) return NestedFilters.BAD_ARG;
        if (op == 1 && (x < 0 || x > 2)) return NestedFilters.BAD_ARG;
        return push(3, op, x);
    }

    private int push(int family, int op, int x) {
        int parts = 0;
        for (Filter f : filters) parts += f.parts();
        if (parts == 40) return NestedFilters.FULL;
        if (filters.size() < family) return NestedFilters.TOO_FEW;
        List<Filter> in = new ArrayList<>();
        for (int i = 0; i < family; i++) in.add(0, filters.remove(filters.size() - 1));
        filters.add(new Filter(family, op, x, in));
        return filters.size();
    }

    int scrap() {
        int many = filters.size();
        filters.clear();
        return many;
    }

    int run() {
        counted = 0;
        answers.clear();
        if (filters.size() != 1) return NestedFilters.NO_FILTER;
        try {
            Source s = apply(filters.get(0), input, new Object[3]);
            while (answers.size() < 20) {
                Object a = s.next();
                if (a == NO_MORE) return NestedFilters.DONE;
                answers.add(a);
            }
            return NestedFilters.MORE;
        } catch (Fault f) {
            return NestedFilters.FAILED;
        } catch (Tired t) {
            return NestedFilters.TIRED;
        }
    }

    int answers() {
        run();
        return answers.size();
    }

    int counted() {
        run();
        return counted;
    }

    private List<int[]> listed(int i) {
        run();
        if (i < 0 || i >= answers.size()) return null;
        List<int[]> out = new ArrayList<>();
        list(answers.get(i), out);
        return out;
    }

    int items(int i) {
        List<int[]> l = listed(i);
        return l == null ? NestedFilters.NONE : l.size() > 60 ? NestedFilters.LONG : l.size();
    }

    int kind(int i, int j) {
        List<int[]> l = listed(i);
        return l == null || l.size() > 60 || j < 0 || j >= l.size() ? NestedFilters.NONE : l.get(j)[0];
    }

    int number(int i, int j) {
        List<int[]> l = listed(i);
        return l == null || l.size() > 60 || j < 0 || j >= l.size() ? 0 : l.get(j)[1];
    }

    private static void list(Object v, List<int[]> out) {
        if (v instanceof List<?> l) {
            out.add(new int[] {4, 0});
            for (Object o : l) list(o, out);
            out.add(new int[] {5, 0});
        } else if (v instanceof TreeMap<?, ?> m) {
            out.add(new int[] {6, 0});
            for (var e : m.entrySet()) {
                out.add(new int[] {7, (Integer) e.getKey()});
                list(e.getValue(), out);
            }
            out.add(new int[] {8, 0});
        } else {
            out.add(new int[] {kindOf(v), v instanceof Integer n ? n : 0});
        }
    }

    // ---- values ----

    private static int kindOf(Object v) {
        if (v == null) return 0;
        if (v instanceof Boolean b) return b ? 2 : 1;
        return v instanceof Integer ? 3 : v instanceof List ? 4 : 5;
    }

    private static boolean full(Object v) {
        return kindOf(v) > 1;
    }

    private static List<Object> inside(Object v) {
        if (v instanceof List<?> l) return new ArrayList<>(l);
        if (v instanceof TreeMap<?, ?> m) return new ArrayList<>(m.values());
        return null;
    }

    private static int depth(Object v) {
        if (inside(v) == null) return 0;
        int most = 0;
        for (Object o : inside(v)) most = Math.max(most, depth(o));
        return most + 1;
    }

    private static int order(Object x, Object y) {
        if (kindOf(x) != kindOf(y)) return kindOf(x) - kindOf(y);
        if (x instanceof Integer n) return n.compareTo((Integer) y);
        if (x instanceof TreeMap<?, ?> m) {
            int keys = lists(new ArrayList<>(m.keySet()), new ArrayList<>(((TreeMap<?, ?>) y).keySet()));
            if (keys != 0) return keys;
        }
        return inside(x) == null ? 0 : lists(inside(x), inside(y));
    }

    private static int lists(List<Object> x, List<Object> y) {
        for (int i = 0; i < x.size() && i < y.size(); i++) {
            int o = order(x.get(i), y.get(i));
            if (o != 0) return o;
        }
        return x.size() - y.size();
    }

    // ---- filters ----

    private void count() {
        if (counted == 600) throw new Tired();
        counted++;
    }

    private Source apply(Filter f, Object v, Object[] names) {
        count();
        return switch (f.family) {
            case 0 -> leafOf(f, v, names);
            case 1 -> oneOf(f, v, names);
            case 2 -> twoOf(f, v, names);
            default -> f.op == 0 ? ifOf(f, v, names) : foldOf(f, v, names);
        };
    }

    private static Object[] with(Object[] names, int i, Object x) {
        Object[] more = names.clone();
        more[i] = x;
        return more;
    }

    private Source leafOf(Filter f, Object v, Object[] names) {
        if (f.op == 7) return countedOf(inside(v));
        if (f.op == 15) {
            List<Object> found = new ArrayList<>();
            deep(v, found);
            return countedOf(found);
        }
        if (f.op == 8) return () -> NO_MORE;
        boolean[] gone = {false};
        return () -> {
            if (gone[0]) return NO_MORE;
            gone[0] = true;
            return plain(f, v, names);
        };
    }

    private static void deep(Object v, List<Object> found) {
        found.add(v);
        if (inside(v) != null) for (Object o : inside(v)) deep(o, found);
    }

    private Source countedOf(List<Object> list) {
        int[] at = {0};
        return () -> {
            if (list == null) throw new Fault();
            if (at[0] == list.size()) return NO_MORE;
            count();
            return list.get(at[0]++);
        };
    }

    private static Object plain(Filter f, Object v, Object[] names) throws Fault {
        switch (f.op) {
            case 0: return v;
            case 1: return null;
            case 2: return false;
            case 3: return true;
            case 4: return f.x;
            case 5:
                if (v == null) return null;
                if (v instanceof TreeMap<?, ?> m) return m.get(f.x);
                throw new Fault();
            case 6:
                if (v == null) return null;
                if (!(v instanceof List<?> l)) throw new Fault();
                int place = f.x < 0 ? l.size() + f.x : f.x;
                return place < 0 || place >= l.size() ? null : l.get(place);
            case 10:
                if (v == null) return 0;
                if (v instanceof Integer n) return Math.abs(n);
                if (inside(v) != null) return inside(v).size();
                throw new Fault();
            case 11:
                if (v instanceof TreeMap<?, ?> m) return new ArrayList<Object>(m.keySet());
                if (!(v instanceof List<?> l)) throw new Fault();
                List<Object> places = new ArrayList<>();
                for (int i = 0; i < l.size(); i++) places.add(i);
                return places;
            case 12: return kindOf(v);
            case 13: return names[f.x];
            case 14: return !full(v);
            default: throw new Fault();
        }
    }

    private Source oneOf(Filter f, Object v, Object[] names) {
        Source[] a = {null};
        int[] given = {0};
        return () -> {
            if (f.op == 2 && given[0] == f.x || f.op == 0 && given[0] == 1) return NO_MORE;
            if (a[0] == null) a[0] = apply(f.in.get(0), v, names);
            given[0]++;
            if (f.op == 0) return allOf(a[0]);
            if (f.op == 1) {
                try {
                    return a[0].next();
                } catch (Fault e) {
                    return NO_MORE;
                }
            }
            Object x = a[0].next();
            while (f.op == 3 && x != NO_MORE && !full(x)) x = a[0].next();
            if (x == NO_MORE || f.op == 2) return x;
            if (f.op == 3) return v;
            count();
            if (depth(x) == 4) throw new Fault();
            TreeMap<Integer, Object> m = new TreeMap<>();
            m.put(f.x, x);
            return m;
        };
    }

    private static Object allOf(Source a) throws Fault {
        List<Object> list = new ArrayList<>();
        for (Object x = a.next(); x != NO_MORE; x = a.next()) {
            if (list.size() == 10 || depth(x) == 4) throw new Fault();
            list.add(x);
        }
        return list;
    }

    private interface Behind {
        Source of(Object x) throws Fault;
    }

    private Source forEach(Filter a, Object v, Object[] names, Behind behind) {
        Source[] s = {null, null};
        return () -> {
            if (s[0] == null) s[0] = apply(a, v, names);
            while (true) {
                if (s[1] == null) {
                    Object x = s[0].next();
                    if (x == NO_MORE) return NO_MORE;
                    s[1] = behind.of(x);
                }
                Object y = s[1].next();
                if (y != NO_MORE) return y;
                s[1] = null;
            }
        };
    }

    private Source single(Object answer) {
        boolean[] gone = {false};
        return () -> {
            if (gone[0]) return NO_MORE;
            count();
            gone[0] = true;
            return answer;
        };
    }

    private Source twoOf(Filter f, Object v, Object[] names) {
        Filter a = f.in.get(0);
        Filter b = f.in.get(1);
        if (f.op == 0) return forEach(a, v, names, x -> apply(b, x, names));
        if (f.op == 1 || f.op == 11) return oneThenOther(f, v, names);
        if (f.op == 12) return forEach(a, v, names, x -> apply(b, v, with(names, f.x, x)));
        if (f.op == 9 || f.op == 10) {
            return forEach(a, v, names, x -> {
                if (full(x) == (f.op == 10)) return single(f.op == 10);
                Source s = apply(b, v, names);
                return () -> {
                    Object y = s.next();
                    if (y == NO_MORE) return y;
                    count();
                    return full(y);
                };
            });
        }
        return forEach(a, v, names, x -> {
            Source s = apply(b, v, names);
            return () -> {
                Object y = s.next();
                if (y == NO_MORE) return y;
                count();
                return sign(f.op, x, y);
            };
        });
    }

    private Source oneThenOther(Filter f, Object v, Object[] names) {
        Source[] s = {null, null};
        boolean[] any = {false};
        return () -> {
            if (s[1] != null) return s[1].next();
            if (s[0] == null) s[0] = apply(f.in.get(0), v, names);
            Object x = NO_MORE;
            try {
                x = s[0].next();
                while (f.op == 11 && x != NO_MORE && !full(x)) x = s[0].next();
            } catch (Fault e) {
                if (f.op == 1) throw e;
                x = NO_MORE;
            }
            if (x != NO_MORE) {
                any[0] = true;
                return x;
            }
            if (f.op == 11 && any[0]) return NO_MORE;
            s[1] = apply(f.in.get(1), v, names);
            return s[1].next();
        };
    }

    private static Object sign(int op, Object x, Object y) throws Fault {
        if (op == 7) return order(x, y) < 0;
        if (op == 8) return order(x, y) == 0;
        if (op == 2 && x == null) return y;
        if (op == 2 && y == null) return x;
        if (x instanceof Integer n && y instanceof Integer m) {
            if (op >= 5 && m == 0) throw new Fault();
            return op == 2 ? n + m : op == 3 ? n - m : op == 4 ? n * m : op == 5 ? n / m : n % m;
        }
        if (x instanceof List && y instanceof List) {
            List<Object> l = inside(x);
            if (op == 2) {
                l.addAll(inside(y));
                if (l.size() <= 10) return l;
            }
            if (op == 3) {
                l.removeIf(o -> inside(y).stream().anyMatch(p -> order(o, p) == 0));
                return l;
            }
        }
        if (op == 2 && x instanceof TreeMap<?, ?> p && y instanceof TreeMap<?, ?> q) {
            TreeMap<Object, Object> m = new TreeMap<>();
            m.putAll(p);
            m.putAll(q);
            return m;
        }
        throw new Fault();
    }

    private Source ifOf(Filter f, Object v, Object[] names) {
        return forEach(f.in.get(0), v, names, x -> apply(f.in.get(full(x) ? 1 : 2), v, names));
    }

    private Source foldOf(Filter f, Object v, Object[] names) {
        boolean[] gone = {false};
        return () -> {
            if (gone[0]) return NO_MORE;
            gone[0] = true;
            Object s = last(apply(f.in.get(1), v, names));
            Source a = apply(f.in.get(0), v, names);
            for (Object x = a.next(); x != NO_MORE; x = a.next()) {
                s = last(apply(f.in.get(2), s, with(names, f.x, x)));
            }
            return s;
        };
    }

    private static Object last(Source s) throws Fault {
        Object last = null;
        for (Object x = s.next(); x != NO_MORE; x = s.next()) last = x;
        return last;
    }
}
