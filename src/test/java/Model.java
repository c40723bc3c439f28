import java.util.ArrayDeque;
import java.util.ArrayList;
import java.util.Arrays;
import java.util.Deque;
import java.util.HashMap;
import java.util.HashSet;
import java.util.LinkedHashSet;
import java.util.List;
import java.util.Map;
import java.util.Set;
import java.util.function.ToIntFunction;
import java.math.BigInteger;

/** The document once more, as plainly as the Java library lets it be said: what NettleGreen is held against. */
final class Model {
    static final int NONE = -1;

    record Fault(int kind, int place) { }

    static final class FaultFound extends RuntimeException {
        final Fault fault;

        FaultFound(int kind, int place) {
            super(null, null, false, false);
            fault = new Fault(kind, place);
        }
    }

    interface Expr {
        int of(int own, int other, int sore, int day);
    }

    record Person(String name, int firm, int learns, int lumps) { }

    record Meeting(int a, int b, int on) { }

    record Brother(String name, int cools, List<Integer> round) { }

    static final class Told {
        final List<Person> people = new ArrayList<>();
        final List<Meeting> meetings = new ArrayList<>();
        final List<Brother> brothers = new ArrayList<>();
        Expr lumps = (own, other, sore, day) -> 9 - own;
        int units = 0;
        int bed = 40;
        int flares = 0;
        int draw = 0;
    }

    static final class World {
        int[] lumps;
        int[] firm;
        Set<Integer> forbidden = new HashSet<>();
        int day;
        int seed;

        World copy() {
            World w = new World();
            w.lumps = lumps.clone();
            w.firm = firm.clone();
            w.forbidden = new HashSet<>(forbidden);
            w.day = day;
            w.seed = seed;
            return w;
        }
    }

    record Tok(String text, int place) {
        boolean isWord() {
            return !text.isEmpty() && Character.isLowerCase(text.charAt(0));
        }

        boolean isNumber() {
            return !text.isEmpty() && Character.isDigit(text.charAt(0));
        }
    }

    static final Set<String> WORDS = Set.of("person", "firm", "learns", "lumps", "meet", "on", "brother", "cools",
        "round", "bed", "flares", "draw", "or", "and", "not", "own", "other", "sore", "day", "week");

    /** Reads one text, token by token; the fault is thrown. */
    static final class Reader {
        final String text;
        int at = 0;
        Tok tok;
        final Told told = new Told();
        final Set<String> once = new HashSet<>();

        Reader(String text) {
            this.text = text;
        }

        Told read() {
            step();
            while (!tok.text.isEmpty()) {
                line();
            }
            return told;
        }

        void step() {
            while (at < text.length() && (text.charAt(at) == ' ' || text.charAt(at) == '\n')) {
                at++;
            }
            String rest = text.substring(at);
            String found = "";
            if (!rest.isEmpty()) {
                java.util.regex.Matcher m =
                    java.util.regex.Pattern.compile("[a-z]+|[0-9]+[a-z]?|[;()<>=+*/%-]").matcher(rest);
                if (!m.lookingAt()) {
                    found = "?";
                } else {
                    found = m.group();
                    boolean good = found.matches("[a-z]{1,8}|[0-9]{1,4}|[^a-z0-9]");
                    found = good ? found : "?";
                }
            }
            tok = new Tok(found, at);
            at += found.length();
        }

        FaultFound cannotStand() {
            return new FaultFound(tok.text.equals("?") ? 1 : 2, tok.place);
        }

        void take(String word) {
            if (!tok.text.equals(word)) {
                throw cannotStand();
            }
            step();
        }

        int number(int least, int most) {
            if (!tok.isNumber()) {
                throw cannotStand();
            }
            int n = Integer.parseInt(tok.text);
            if (n < least || n > most) {
                throw new FaultFound(4, tok.place);
            }
            step();
            return n;
        }

        String name() {
            if (!tok.isWord() || WORDS.contains(tok.text)) {
                throw cannotStand();
            }
            return tok.text;
        }

        int known(List<Integer> already) {
            String name = name();
            for (int i = 0; i < told.people.size(); i++) {
                if (told.people.get(i).name.equals(name)) {
                    if (already.contains(i)) {
                        throw new FaultFound(3, tok.place);
                    }
                    step();
                    return i;
                }
            }
            throw new FaultFound(5, tok.place);
        }

        void line() {
            Tok head = tok;
            switch (head.text) {
                case "person" -> {
                    if (told.people.size() == 6) {
                        throw cannotStand();
                    }
                    step();
                    String name = name();
                    if (told.people.stream().anyMatch(p -> p.name.equals(name))) {
                        throw new FaultFound(3, tok.place);
                    }
                    step();
                    take("firm");
                    int firm = number(0, 30);
                    int learns = 0;
                    int lumps = 0;
                    if (tok.text.equals("learns")) {
                        step();
                        learns = number(0, 9);
                    }
                    if (tok.text.equals("lumps")) {
                        step();
                        lumps = number(0, 99);
                    }
                    take(";");
                    told.people.add(new Person(name, firm, learns, lumps));
                }
                case "meet" -> {
                    if (told.meetings.size() == 9) {
                        throw cannotStand();
                    }
                    step();
                    int a = known(List.of());
                    int b = known(List.of(a));
                    take("on");
                    int on = number(0, 6);
                    take(";");
                    told.meetings.add(new Meeting(a, b, on));
                }
                case "brother" -> {
                    if (told.brothers.size() == 2) {
                        throw cannotStand();
                    }
                    step();
                    String name = name();
                    if (told.brothers.stream().anyMatch(p -> p.name.equals(name))) {
                        throw new FaultFound(3, tok.place);
                    }
                    step();
                    take("cools");
                    int cools = number(1, 20);
                    take("round");
                    List<Integer> round = new ArrayList<>();
                    round.add(known(round));
                    while (tok.isWord() && !WORDS.contains(tok.text)) {
                        round.add(known(round));
                    }
                    take(";");
                    told.brothers.add(new Brother(name, cools, round));
                }
                case "lumps", "bed", "flares", "draw" -> {
                    if (!once.add(head.text)) {
                        throw cannotStand();
                    }
                    step();
                    switch (head.text) {
                        case "lumps" -> told.lumps = e(0);
                        case "bed" -> told.bed = number(1, 99);
                        case "flares" -> told.flares = number(0, 100);
                        default -> told.draw = number(0, 999);
                    }
                    take(";");
                }
                default -> throw cannotStand();
            }
        }

        Expr e(int deep) {
            Expr left = both(deep);
            while (tok.text.equals("or")) {
                step();
                Expr l = left;
                Expr r = both(deep);
                left = (a, b, c, d) -> l.of(a, b, c, d) != 0 || r.of(a, b, c, d) != 0 ? 1 : 0;
            }
            return left;
        }

        Expr both(int deep) {
            Expr left = one(deep);
            while (tok.text.equals("and")) {
                step();
                Expr l = left;
                Expr r = one(deep);
                left = (a, b, c, d) -> l.of(a, b, c, d) != 0 && r.of(a, b, c, d) != 0 ? 1 : 0;
            }
            return left;
        }

        Expr one(int deep) {
            if (tok.text.equals("not")) {
                if (deep == 7) {
                    throw cannotStand();
                }
                step();
                Expr inner = one(deep + 1);
                return (a, b, c, d) -> inner.of(a, b, c, d) == 0 ? 1 : 0;
            }
            Expr l = sum(deep);
            String op = tok.text;
            if (!Set.of("<", ">", "=").contains(op)) {
                return l;
            }
            step();
            Expr r = sum(deep);
            return (a, b, c, d) -> {
                int x = l.of(a, b, c, d);
                int y = r.of(a, b, c, d);
                return (op.equals("<") ? x < y : op.equals(">") ? x > y : x == y) ? 1 : 0;
            };
        }

        Expr sum(int deep) {
            Expr left = term(deep);
            while (tok.text.equals("+") || tok.text.equals("-")) {
                boolean plus = tok.text.equals("+");
                step();
                Expr l = left;
                Expr r = term(deep);
                left = (a, b, c, d) -> plus ? l.of(a, b, c, d) + r.of(a, b, c, d) : l.of(a, b, c, d) - r.of(a, b, c, d);
            }
            return left;
        }

        Expr term(int deep) {
            Expr left = unit(deep);
            while (Set.of("*", "/", "%").contains(tok.text)) {
                String op = tok.text;
                step();
                Expr l = left;
                Expr r = unit(deep);
                left = (a, b, c, d) -> {
                    int x = l.of(a, b, c, d);
                    int y = r.of(a, b, c, d);
                    if (op.equals("*")) {
                        return x * y;
                    }
                    if (y == 0) {
                        return 0;
                    }
                    return op.equals("/") ? x / y : x % y;
                };
            }
            return left;
        }

        Expr unit(int deep) {
            String t = tok.text;
            boolean is = tok.isNumber() || Set.of("own", "other", "sore", "day", "week", "(").contains(t);
            if (!is || told.units == 30 || t.equals("(") && deep == 7) {
                throw cannotStand();
            }
            told.units++;
            step();
            switch (t) {
                case "own":
                    return (a, b, c, d) -> a;
                case "other":
                    return (a, b, c, d) -> b;
                case "sore":
                    return (a, b, c, d) -> c;
                case "day":
                    return (a, b, c, d) -> d;
                case "week":
                    return (a, b, c, d) -> d / 7;
                case "(":
                    Expr inner = e(deep + 1);
                    take(")");
                    return inner;
                default:
                    int n = Integer.parseInt(t);
                    return (a, b, c, d) -> n;
            }
        }
    }

    record Sight(int days, int person, int lumps, boolean is, int told) { }

    final StringBuilder tape = new StringBuilder();
    Told told = new Told();
    Fault fault = new Fault(0, NONE);
    World now = fresh(told);
    final Deque<World> undos = new ArrayDeque<>();
    final Deque<World> redos = new ArrayDeque<>();
    final Map<Integer, World> boxes = new HashMap<>();
    List<Integer> lying = new ArrayList<>();
    final List<Sight> sights = new ArrayList<>();
    final Map<Integer, Integer> untold = new HashMap<>();
    int time = 0;

    static World fresh(Told t) {
        World w = new World();
        w.lumps = t.people.stream().mapToInt(p -> p.lumps).toArray();
        w.firm = t.people.stream().mapToInt(p -> p.firm).toArray();
        w.seed = t.draw;
        return w;
    }

    int feed(int a, int b, int c, int d, int e) {
        if (tape.length() + 20 > 1600) {
            return NONE;
        }
        for (int n : new int[] {a, b, c, d, e}) {
            for (int i = 3; i >= 0; i--) {
                tape.append((char) (n >>> 8 * i & 255));
            }
        }
        return tape.length();
    }

    int end(int n) {
        if (n < 0 || n > tape.length()) {
            return NONE;
        }
        tape.setLength(n);
        return n;
    }

    int hamlet() {
        String text = tape.toString();
        tape.setLength(0);
        Told read;
        try {
            read = new Reader(text).read();
        } catch (FaultFound found) {
            fault = found.fault;
            return NONE;
        }
        fault = new Fault(0, NONE);
        told = read;
        now = fresh(told);
        undos.clear();
        redos.clear();
        boxes.clear();
        lying = new ArrayList<>();
        sights.clear();
        untold.clear();
        return told.people.size();
    }

    int fault(int what) {
        return what == 0 ? fault.kind : what == 1 ? fault.place : NONE;
    }

    boolean isPerson(int p) {
        return p >= 0 && p < told.people.size();
    }

    boolean isMeeting(int m) {
        return m >= 0 && m < told.meetings.size();
    }

    boolean isBrother(int b) {
        return b >= 0 && b < told.brothers.size();
    }

    static boolean in(int n, int low, int high) {
        return n >= low && n <= high;
    }

    int person(int p, int what) {
        if (!isPerson(p) || !in(what, 0, 3)) {
            return NONE;
        }
        return new int[] {now.firm[p], told.people.get(p).learns, now.lumps[p], now.lumps[p] >= told.bed ? 1 : 0}[what];
    }

    int meeting(int m, int what) {
        if (!isMeeting(m) || !in(what, 0, 3)) {
            return NONE;
        }
        Meeting x = told.meetings.get(m);
        return new int[] {x.a, x.b, x.on, now.forbidden.contains(m) ? 1 : 0}[what];
    }

    int brother(int b, int what) {
        if (!isBrother(b) || !in(what, 0, 1)) {
            return NONE;
        }
        return what == 0 ? told.brothers.get(b).cools : told.brothers.get(b).round.size();
    }

    int round(int b, int place) {
        return isBrother(b) && in(place, 0, told.brothers.get(b).round.size() - 1)
            ? told.brothers.get(b).round.get(place) : NONE;
    }

    int left(World w, int own, int ownFirm, int otherFirm) {
        int v = told.lumps.of(ownFirm, otherFirm, w.lumps[own], w.day);
        return v < 0 ? 0 : v > 20 ? 20 : v;
    }

    int touch(int m, int what) {
        if (!isMeeting(m) || !in(what, 0, 1)) {
            return NONE;
        }
        Meeting x = told.meetings.get(m);
        int own = what == 0 ? x.a : x.b;
        int other = what == 0 ? x.b : x.a;
        return left(now, own, now.firm[own], now.firm[other]);
    }

    static int bits(Iterable<Integer> set) {
        int all = 0;
        for (int i : set) {
            all |= 1 << i;
        }
        return all;
    }

    Set<Integer> abedIn(World w) {
        Set<Integer> all = new HashSet<>();
        for (int p = 0; p < told.people.size(); p++) {
            if (w.lumps[p] >= told.bed) {
                all.add(p);
            }
        }
        return all;
    }

    int abed() {
        return bits(abedIn(now));
    }

    /** One day in w; tells which meetings took place. */
    Set<Integer> pass(World w, List<List<Integer>> rounds, boolean flares) {
        Set<Integer> met = new LinkedHashSet<>();
        for (int m = 0; m < told.meetings.size(); m++) {
            Meeting x = told.meetings.get(m);
            if (w.day % 7 != x.on || w.forbidden.contains(m) || abedIn(w).contains(x.a) || abedIn(w).contains(x.b)) {
                continue;
            }
            met.add(m);
            int toA = left(w, x.a, w.firm[x.a], w.firm[x.b]);
            int toB = left(w, x.b, w.firm[x.b], w.firm[x.a]);
            w.lumps[x.a] = Math.min(w.lumps[x.a] + toA, 99);
            w.lumps[x.b] = Math.min(w.lumps[x.b] + toB, 99);
            if (w.firm[x.a] != w.firm[x.b]) {
                int less = w.firm[x.a] < w.firm[x.b] ? x.a : x.b;
                int more = less == x.a ? x.b : x.a;
                w.firm[less] = Math.min(w.firm[more], w.firm[less] + told.people.get(less).learns);
            }
        }
        for (int b = 0; b < told.brothers.size(); b++) {
            List<Integer> round = rounds.get(b);
            int p = round.get(w.day % round.size());
            w.lumps[p] = Math.max(0, w.lumps[p] - told.brothers.get(b).cools);
        }
        if (flares) {
            for (int p = 0; p < told.people.size(); p++) {
                if (w.lumps[p] != 0) {
                    w.seed = (137 * w.seed + 71) % 1000;
                    if (w.seed % 100 < told.flares) {
                        w.lumps[p] = Math.min(99, w.lumps[p] + 1);
                    }
                }
            }
        }
        w.day++;
        return met;
    }

    List<List<Integer>> rounds() {
        return told.brothers.stream().map(b -> b.round).toList();
    }

    void keep() {
        undos.push(now.copy());
        redos.clear();
        if (undos.size() > 40) {
            undos.removeLast();
        }
    }

    int day() {
        if (now.day >= 999) {
            return NONE;
        }
        keep();
        return bits(pass(now, rounds(), true));
    }

    int lesson(int p) {
        if (!isPerson(p) || now.firm[p] == 30) {
            return NONE;
        }
        keep();
        return ++now.firm[p];
    }

    int forbid(int m) {
        if (!isMeeting(m) || now.forbidden.contains(m)) {
            return NONE;
        }
        keep();
        now.forbidden.add(m);
        return bits(now.forbidden);
    }

    int allow(int m) {
        if (!isMeeting(m) || !now.forbidden.contains(m)) {
            return NONE;
        }
        keep();
        now.forbidden.remove(m);
        return bits(now.forbidden);
    }

    int call(int b, int p) {
        if (!isBrother(b) || !isPerson(p) || now.lumps[p] == 0) {
            return NONE;
        }
        keep();
        now.lumps[p] = Math.max(0, now.lumps[p] - told.brothers.get(b).cools);
        return now.lumps[p];
    }

    boolean undo() {
        if (undos.isEmpty()) {
            return false;
        }
        redos.push(now);
        now = undos.pop();
        return true;
    }

    boolean redo() {
        if (redos.isEmpty()) {
            return false;
        }
        undos.push(now);
        now = redos.pop();
        return true;
    }

    World behind(World from, int n) {
        World w = from.copy();
        for (int i = 0; i < n; i++) {
            pass(w, rounds(), false);
        }
        return w;
    }

    static int sum(World w) {
        return Arrays.stream(w.lumps).sum();
    }

    int will(int p, int n, int what) {
        if (!isPerson(p) || !in(n, 0, 60) || !in(what, 0, 1)) {
            return NONE;
        }
        World w = now.copy();
        for (int i = 0; i < n; i++) {
            pass(w, rounds(), what == 1);
        }
        return w.lumps[p];
    }

    int firm(int p, int n) {
        return isPerson(p) && in(n, 0, 60) ? behind(now, n).firm[p] : NONE;
    }

    int hurt(int n) {
        return in(n, 0, 60) ? sum(behind(now, n)) : NONE;
    }

    int firstAbed(World from, int p, int n) {
        World w = from.copy();
        for (int i = 0; i <= n; i++) {
            if (w.lumps[p] >= told.bed) {
                return i;
            }
            pass(w, rounds(), false);
        }
        return NONE;
    }

    int felled(int p) {
        return isPerson(p) ? firstAbed(now, p, 60) : NONE;
    }

    int peace(int n, int what) {
        if (!in(n, 0, 14) || !in(what, 0, 1)) {
            return NONE;
        }
        int best = NONE;
        for (int set = 0; set < 1 << told.meetings.size(); set++) {
            if ((set & bits(now.forbidden)) != 0) {
                continue;
            }
            World w = now.copy();
            for (int m = 0; m < told.meetings.size(); m++) {
                if ((set >> m & 1) == 1) {
                    w.forbidden.add(m);
                }
            }
            boolean good = true;
            for (int p = 0; p < told.people.size() && good; p++) {
                good = firstAbed(w, p, n) == NONE;
            }
            if (good && (best == NONE || Integer.bitCount(set) < Integer.bitCount(best))) {
                best = set;
            }
        }
        return best == NONE ? NONE : what == 0 ? Integer.bitCount(best) : best;
    }

    static void orders(List<Integer> head, List<Integer> rest, List<List<Integer>> into) {
        if (rest.isEmpty()) {
            into.add(head);
        }
        for (Integer x : rest) {
            List<Integer> h = new ArrayList<>(head);
            h.add(x);
            List<Integer> r = new ArrayList<>(rest);
            r.remove(x);
            orders(h, r, into);
        }
    }

    int rounds(int b, int n) {
        lying = new ArrayList<>();
        if (!isBrother(b) || !in(n, 0, 14)) {
            return NONE;
        }
        List<List<Integer>> all = new ArrayList<>();
        orders(List.of(), told.brothers.get(b).round.stream().sorted().toList(), all);
        int best = Integer.MAX_VALUE;
        for (List<Integer> order : all) {
            List<List<Integer>> tried = new ArrayList<>(rounds());
            tried.set(b, order);
            World w = now.copy();
            for (int i = 0; i < n; i++) {
                pass(w, tried, false);
            }
            if (sum(w) < best) {
                best = sum(w);
                lying = order;
            }
        }
        return best;
    }

    int grip(int p, int n) {
        if (!isPerson(p) || !in(n, 0, 30)) {
            return NONE;
        }
        for (int f = 0; f <= 30; f++) {
            World w = now.copy();
            w.firm[p] = f;
            if (firstAbed(w, p, n) == NONE) {
                return f;
            }
        }
        return NONE;
    }

    /** The first of the people by whom the least hurt comes, or that hurt; a world that is null is passed over. */
    int least(java.util.function.IntFunction<World> by, int n, int what) {
        int who = NONE;
        int hurt = NONE;
        for (int p = 0; p < told.people.size(); p++) {
            World w = by.apply(p);
            if (w != null) {
                int h = sum(behind(w, n));
                if (who == NONE || h < hurt) {
                    who = p;
                    hurt = h;
                }
            }
        }
        return what == 0 ? who : hurt;
    }

    int pupil(int n, int what) {
        if (!in(n, 0, 30) || !in(what, 0, 1)) {
            return NONE;
        }
        return least(p -> {
            World w = now.copy();
            w.firm[p]++;
            return now.firm[p] == 30 ? null : w;
        }, n, what);
    }

    boolean haveMeeting(int p, int q) {
        for (int m = 0; m < told.meetings.size(); m++) {
            Meeting x = told.meetings.get(m);
            if (!now.forbidden.contains(m) && (x.a == p && x.b == q || x.a == q && x.b == p)) {
                return true;
            }
        }
        return false;
    }

    int evenings() {
        int n = told.people.size();
        lying = new ArrayList<>();
        for (int k = n == 0 ? 0 : 1; k <= n; k++) {
            int all = (int) Math.round(Math.pow(k, n));
            for (int code = 0; code < all; code++) {
                int[] group = new int[n];
                for (int p = n - 1, c = code; p >= 0; p--, c /= Math.max(k, 1)) {
                    group[p] = c % k;
                }
                boolean good = true;
                for (int p = 0; p < n; p++) {
                    for (int q = 0; q < p; q++) {
                        good &= group[p] != group[q] || !haveMeeting(p, q);
                    }
                }
                if (good) {
                    for (int g : group) {
                        lying.add(g);
                    }
                    return k;
                }
            }
        }
        return 0;
    }

    int rumour(int p, int q) {
        if (!isPerson(p) || !isPerson(q)) {
            return NONE;
        }
        int n = told.people.size();
        int[][] far = new int[n][n];
        for (int i = 0; i < n; i++) {
            for (int j = 0; j < n; j++) {
                far[i][j] = i == j ? 0 : haveMeeting(i, j) ? 1 : 1000;
            }
        }
        for (int k = 0; k < n; k++) {
            for (int i = 0; i < n; i++) {
                for (int j = 0; j < n; j++) {
                    far[i][j] = Math.min(far[i][j], far[i][k] + far[k][j]);
                }
            }
        }
        return far[p][q] >= 1000 ? NONE : far[p][q];
    }

    int manners() {
        for (int k = 0; k <= 60; k++) {
            World w = behind(now, k);
            boolean same = true;
            for (int i = 0; i < 7; i++) {
                int[] before = w.firm.clone();
                pass(w, rounds(), false);
                same &= Arrays.equals(before, w.firm);
            }
            if (same) {
                return k;
            }
        }
        return NONE;
    }

    int duel(int m) {
        lying = new ArrayList<>();
        if (!isMeeting(m)) {
            return NONE;
        }
        Meeting x = told.meetings.get(m);
        int[][] toA = new int[2][2];
        int[][] toB = new int[2][2];
        for (int i = 0; i < 2; i++) {
            for (int j = 0; j < 2; j++) {
                int fa = i == 1 ? Math.min(30, now.firm[x.a] + 5) : now.firm[x.a];
                int fb = j == 1 ? Math.min(30, now.firm[x.b] + 5) : now.firm[x.b];
                toA[i][j] = -left(now, x.a, fa, fb) - i;
                toB[i][j] = -left(now, x.b, fb, fa) - j;
            }
        }
        int rests = 0;
        for (int i = 0; i < 2; i++) {
            for (int j = 0; j < 2; j++) {
                if (toA[1 - i][j] <= toA[i][j] && toB[i][1 - j] <= toB[i][j]) {
                    if (rests++ == 0) {
                        lying = List.of(i, j);
                    }
                }
            }
        }
        return rests;
    }

    int scourge(int what) {
        if (!in(what, 0, 1)) {
            return NONE;
        }
        return least(p -> {
            World w = now.copy();
            for (int m = 0; m < told.meetings.size(); m++) {
                if (told.meetings.get(m).a == p || told.meetings.get(m).b == p) {
                    w.forbidden.add(m);
                }
            }
            return w;
        }, 7, what);
    }

    int relief(int b, int what) {
        if (!isBrother(b) || !in(what, 0, 1)) {
            return NONE;
        }
        return least(p -> {
            World w = now.copy();
            w.lumps[p] = Math.max(0, w.lumps[p] - told.brothers.get(b).cools);
            return w;
        }, 7, what);
    }

    int most(int[] of) {
        int best = NONE;
        for (int p = of.length - 1; p >= 0; p--) {
            if (best == NONE || of[p] >= of[best]) {
                best = p;
            }
        }
        return best;
    }

    int sorest() {
        return most(now.lumps);
    }

    int firmest() {
        return most(now.firm);
    }

    int due() {
        Set<Integer> all = new HashSet<>();
        for (int m = 0; m < told.meetings.size(); m++) {
            Meeting x = told.meetings.get(m);
            if (x.on == now.day % 7 && !now.forbidden.contains(m) && now.lumps[x.a] < told.bed && now.lumps[x.b] < told.bed) {
                all.add(m);
            }
        }
        return bits(all);
    }

    int friends(int p) {
        if (!isPerson(p)) {
            return NONE;
        }
        Set<Integer> all = new HashSet<>();
        for (int q = 0; q < told.people.size(); q++) {
            if (haveMeeting(p, q)) {
                all.add(q);
            }
        }
        return bits(all);
    }

    int uncared() {
        Set<Integer> all = new HashSet<>();
        for (int p = 0; p < told.people.size(); p++) {
            int who = p;
            if (told.brothers.stream().noneMatch(b -> b.round.contains(who))) {
                all.add(p);
            }
        }
        return bits(all);
    }

    int law(int n) {
        if (!in(n, 0, 30)) {
            return NONE;
        }
        World w = now.copy();
        Arrays.fill(w.firm, n);
        return sum(behind(w, 7));
    }

    int next(int m) {
        if (!isMeeting(m)) {
            return NONE;
        }
        World w = now.copy();
        for (int i = 1; i <= 60; i++) {
            if (pass(w, rounds(), false).contains(m)) {
                return i;
            }
        }
        return NONE;
    }

    int odds(int n, int part) {
        if (!in(n, 0, 4) || !in(part, 0, 1)) {
            return NONE;
        }
        BigInteger up = BigInteger.valueOf(100 - told.flares).pow(n);
        BigInteger low = BigInteger.valueOf(100).pow(n);
        BigInteger gcd = up.gcd(low);
        return (part == 0 ? up : low).divide(gcd).intValueExact();
    }

    int lies(int i) {
        return in(i, 0, lying.size() - 1) ? lying.get(i) : -2;
    }

    int seen(int days, int p, int lumps, boolean is) {
        if (!in(days, 0, 14) || !isPerson(p) || !in(lumps, 0, 99) || sights.size() == 30) {
            return NONE;
        }
        sights.add(new Sight(days, p, lumps, is, time));
        return sights.size() - 1;
    }

    boolean untell(int seen) {
        return in(seen, 0, sights.size() - 1) && untold.putIfAbsent(seen, time) == null;
    }

    int later(int by) {
        if (!in(by, 0, 1000) || time + by > 100000) {
            return NONE;
        }
        time += by;
        return time;
    }

    World asTold(int f, int days) {
        World w = fresh(told);
        w.firm[w.firm.length - 1] = f;
        return behind(w, days);
    }

    List<Integer> fitting(int k) {
        List<Integer> all = new ArrayList<>();
        for (int f = 0; f <= 30 && !told.people.isEmpty(); f++) {
            boolean good = true;
            for (int i = 0; i < sights.size(); i++) {
                Sight s = sights.get(i);
                boolean counts = s.told <= k && !(untold.containsKey(i) && untold.get(i) <= k);
                good &= !counts || asTold(f, s.days).lumps[s.person] >= s.lumps == s.is;
            }
            if (good) {
                all.add(f);
            }
        }
        return all;
    }

    int fits(int k) {
        return fitting(k).size();
    }

    int sure(int what, int k) {
        List<Integer> all = fitting(k);
        return all.isEmpty() || !in(what, 0, 1) ? NONE : what == 0 ? all.get(0) : all.get(all.size() - 1);
    }

    int ask(int days, int what, int k) {
        List<Integer> all = fitting(k);
        if (all.isEmpty() || !in(days, 0, 14) || !in(what, 0, 1)) {
            return NONE;
        }
        List<World> worlds = all.stream().map(f -> asTold(f, days)).toList();
        int who = NONE;
        int left = NONE;
        for (int p = 0; p < told.people.size(); p++) {
            int q = p;
            ToIntFunction<World> same = w -> (int) worlds.stream().filter(v -> v.lumps[q] == w.lumps[q]).count();
            int most = worlds.stream().mapToInt(same).max().orElse(0);
            if (who == NONE || most < left) {
                who = p;
                left = most;
            }
        }
        return what == 0 ? who : left;
    }

    int image(int box) {
        if (!in(box, 0, 2)) {
            return NONE;
        }
        boxes.put(box, now.copy());
        return now.day;
    }

    int back(int box) {
        if (!boxes.containsKey(box)) {
            return NONE;
        }
        now = boxes.get(box).copy();
        undos.clear();
        redos.clear();
        return now.day;
    }

    int about(int what) {
        if (!in(what, 0, 14)) {
            return NONE;
        }
        return new int[] {told.people.size(), told.meetings.size(), told.brothers.size(), bits(now.forbidden), now.day,
            now.seed, undos.size(), redos.size(), sights.size(), time, tape.length(), told.units, lying.size(),
            told.bed, told.flares}[what];
    }
}
