import java.math.BigInteger;
import java.util.ArrayList;
import java.util.List;
import java.util.NoSuchElementException;

/** The document said once more, as plainly and slowly as it can be, to be compared with the class. */
final class Model {
    static final class Fault extends RuntimeException {
        final int kind;
        final int place;

        Fault(int kind, int place) {
            this.kind = kind;
            this.place = place;
        }
    }

    /** kind: 'n' number, 'w' word, 'e' the end, else the sign itself. */
    record Token(char kind, int place, String text) {
        long number() {
            String digits = text.replaceFirst("^0+(?=.)", "");
            return digits.length() > 9 ? 999_999_999L : Long.parseLong(digits);
        }
    }

    record Man(int floor, int weight, int vanity) { }

    record Card(int praise, int truth) { }

    record Step(String word, int a, int b, List<Step> body) { }

    static final class Now {
        int day;
        int lift;
        int bell;
        boolean[] in;
        int[] floor;
        int[] pride;
        int[] rode;
        int[][] heard;

        Now copy() {
            Now c = new Now();
            c.day = day;
            c.lift = lift;
            c.bell = bell;
            c.in = in.clone();
            c.floor = floor.clone();
            c.pride = pride.clone();
            c.rode = rode.clone();
            c.heard = new int[heard.length][];
            for (int i = 0; i < heard.length; i++) {
                c.heard[i] = heard[i].clone();
            }
            return c;
        }
    }

    record Picture(Now now, List<Now> works) { }

    private StringBuilder tape = new StringBuilder();
    private int floors = 6;
    private int piano = 100;
    private List<Man> men = new ArrayList<>();
    private List<Card> cards = new ArrayList<>();
    private List<Token> lawTokens = tokens("praise + vanity - heard * 2");
    private int[] book = new int[7];
    private Now now = new Now();
    private List<Now> works = new ArrayList<>();
    private List<Picture> pictures = new ArrayList<>();
    private int faultPlace = -1;
    private int refusedSteps = 0;
    private int nobody = 0;
    private int arguments = 0;

    Model() {
        begin();
    }

    private void begin() {
        now = new Now();
        now.in = new boolean[men.size()];
        now.floor = new int[men.size()];
        now.pride = new int[men.size()];
        now.rode = new int[men.size()];
        now.heard = new int[men.size()][cards.size()];
        for (int m = 0; m < men.size(); m++) {
            now.floor[m] = men.get(m).floor;
        }
        java.util.Arrays.fill(book, -1);
        works = new ArrayList<>();
        pictures = new ArrayList<>();
        lawTokens = tokens("praise + vanity - heard * 2");
        refusedSteps = 0;
    }

    private void argument(boolean fine) {
        if (!fine) {
            arguments++;
            throw new IllegalArgumentException();
        }
    }

    private void exists(boolean fine) {
        if (!fine) {
            nobody++;
            throw new NoSuchElementException();
        }
    }

    private void manIs(int m) {
        exists(m >= 0 && m < men.size());
    }

    private void cardIs(int c) {
        exists(c >= 0 && c < cards.size());
    }

    // ---- reading ----

    static List<Token> tokens(String text) {
        List<Token> all = new ArrayList<>();
        int i = 0;
        while (i < text.length()) {
            char c = text.charAt(i);
            int from = i;
            if (c == ' ') {
                i++;
                continue;
            }
            if (c >= '0' && c <= '9') {
                while (i < text.length() && text.charAt(i) >= '0' && text.charAt(i) <= '9') {
                    i++;
                }
                all.add(new Token('n', from, text.substring(from, i)));
            } else if (c >= 'a' && c <= 'z') {
                while (i < text.length() && text.charAt(i) >= 'a' && text.charAt(i) <= 'z') {
                    i++;
                }
                all.add(new Token('w', from, text.substring(from, i)));
            } else {
                i++;
                all.add(new Token('s', from, "" + c));
            }
        }
        all.add(new Token('e', text.length(), ""));
        return all;
    }

    private List<Token> toks;
    private int t;

    private Token next() {
        return toks.get(t);
    }

    private boolean signIs(String sign) {
        return next().kind == 's' && next().text.equals(sign);
    }

    private void sign(String sign) {
        if (!signIs(sign)) {
            throw new Fault(1, next().place);
        }
        t++;
    }

    private int number(int least, int most) {
        Token token = next();
        if (token.kind != 'n') {
            throw new Fault(1, token.place);
        }
        if (token.number() < least || token.number() > most) {
            throw new Fault(2, token.place);
        }
        t++;
        return (int) token.number();
    }

    private String word(String... allowed) {
        Token token = next();
        if (token.kind == 'w') {
            for (String a : allowed) {
                if (a.equals(token.text)) {
                    t++;
                    return a;
                }
            }
        }
        throw new Fault(1, token.place);
    }

    private String open(int n, int most) {
        argument(n >= 0 && n <= tape.length() && n <= most);
        String text = tape.substring(0, n);
        tape.setLength(0);
        toks = tokens(text);
        t = 0;
        faultPlace = -1;
        return text;
    }

    private long failed(Fault f) {
        faultPlace = f.place;
        return f.kind - 10;
    }

    long feed(int... numbers) {
        if (tape.length() + 20 > 600) {
            return -1;
        }
        for (int x : numbers) {
            tape.append((char) (x >>> 24)).append((char) (x >>> 16 & 255)).append((char) (x >>> 8 & 255)).append((char) (x & 255));
        }
        return tape.length();
    }

    long house(int n) {
        open(n, 600);
        int f = 6;
        int p = 100;
        List<Man> ms = new ArrayList<>();
        List<Card> cs = new ArrayList<>();
        try {
            int clauses = 0;
            while (next().kind != 'e') {
                int place = next().place;
                String w = word("floors", "man", "card", "piano");
                clauses++;
                if (clauses > 60 || w.equals("floors") && !ms.isEmpty() || w.equals("man") && ms.size() == 7 || w.equals("card") && cs.size() == 8) {
                    throw new Fault(3, place);
                }
                if (w.equals("floors")) {
                    f = number(2, 12);
                } else if (w.equals("man")) {
                    ms.add(new Man(number(0, f - 1), number(1, 60), number(0, 9)));
                } else if (w.equals("card")) {
                    cs.add(new Card(number(1, 20), number(0, 9)));
                } else {
                    p = number(0, 300);
                }
                sign(";");
            }
        } catch (Fault fault) {
            return failed(fault);
        }
        floors = f;
        piano = p;
        men = ms;
        cards = cs;
        begin();
        return men.size();
    }

    long law(int n) {
        open(n, 150);
        try {
            facts = new int[9];
            sum(0);
            if (next().kind != 'e') {
                throw new Fault(1, next().place);
            }
        } catch (Fault fault) {
            return failed(fault);
        }
        lawTokens = toks;
        return 1;
    }

    private int[] facts = new int[9];
    private static final String[] FACTS = {"praise", "true", "vanity", "weight", "pride", "heard", "rides", "floor", "man"};

    private int sum(int open) {
        int value = product(open);
        while (signIs("+") || signIs("-")) {
            boolean plus = signIs("+");
            t++;
            int other = product(open);
            value = plus ? value + other : value - other;
        }
        return value;
    }

    private int product(int open) {
        int value = unit(open);
        while (signIs("*") || signIs("/") || signIs("%")) {
            String s = next().text;
            t++;
            int other = unit(open);
            if (s.equals("*")) {
                value = (int) ((long) value * other);
            } else if (other == 0) {
                value = 0;
            } else {
                value = (int) (s.equals("/") ? (long) value / other : (long) value % other);
            }
        }
        return value;
    }

    private int unit(int open) {
        Token token = next();
        if (token.kind == 'n') {
            return number(0, 999);
        }
        if (signIs("(")) {
            if (open == 6) {
                throw new Fault(3, token.place);
            }
            t++;
            int value = sum(open + 1);
            sign(")");
            return value;
        }
        String w = word("praise", "true", "vanity", "weight", "pride", "heard", "rides", "floor", "man", "least", "most");
        for (int i = 0; i < 9; i++) {
            if (FACTS[i].equals(w)) {
                return facts[i];
            }
        }
        if (open == 6) {
            throw new Fault(3, token.place);
        }
        sign("[");
        int a = sum(open + 1);
        sign(",");
        int b = sum(open + 1);
        sign("]");
        return w.equals("least") ? Math.min(a, b) : Math.max(a, b);
    }

    private int swell(int... nine) {
        facts = nine;
        toks = lawTokens;
        t = 0;
        int value = sum(0);
        return value < 0 ? 0 : value > 40 ? 40 : value;
    }

    private List<Step> steps(int open) {
        List<Step> all = new ArrayList<>();
        while (!(open == 0 ? next().kind == 'e' : signIs("]"))) {
            int place = next().place;
            String w = word("enter", "leave", "say", "insult", "go", "walk", "night", "again");
            if (w.equals("again")) {
                if (open == 6) {
                    throw new Fault(3, place);
                }
                int often = number(0, 30);
                sign("[");
                List<Step> body = steps(open + 1);
                sign("]");
                all.add(new Step(w, often, 0, body));
            } else if (w.equals("go") || w.equals("night")) {
                all.add(new Step(w, 0, 0, null));
            } else {
                int a = number(0, men.size() - 1);
                int b = w.equals("say") ? number(0, cards.size() - 1) : w.equals("walk") ? number(0, floors - 1) : 0;
                all.add(new Step(w, a, b, null));
            }
            sign(";");
        }
        return all;
    }

    long work(int n) {
        open(n, 150);
        if (works.size() == 16) {
            return -20;
        }
        List<Step> all;
        try {
            all = steps(0);
        } catch (Fault fault) {
            return failed(fault);
        }
        works.add(now.copy());
        left = 200;
        done = 0;
        refusedSteps = 0;
        perform(all);
        return done;
    }

    private int left;
    private int done;

    private void perform(List<Step> all) {
        for (Step s : all) {
            if (left == 0) {
                return;
            }
            left--;
            if (s.word.equals("again")) {
                for (int i = 0; i < s.a; i++) {
                    perform(s.body);
                }
            } else if (one(now, s.word, s.a, s.b)) {
                done++;
            } else {
                refusedSteps++;
            }
        }
    }

    private int inside(Now x) {
        int many = 0;
        for (boolean b : x.in) {
            many += b ? 1 : 0;
        }
        return many;
    }

    private boolean one(Now x, String w, int m, int b) {
        switch (w) {
            case "enter":
                if (x.in[m] || x.floor[m] != x.lift || inside(x) == 4) {
                    return false;
                }
                x.in[m] = true;
                return true;
            case "leave":
                if (!x.in[m]) {
                    return false;
                }
                x.in[m] = false;
                x.floor[m] = x.lift;
                return true;
            case "say":
                if (x.heard[m][b] == 9) {
                    return false;
                }
                x.pride[m] = Math.min(900, x.pride[m] + swellNow(x, m, b));
                x.heard[m][b]++;
                if (cards.get(b).truth < men.get(m).vanity) {
                    x.bell++;
                }
                return true;
            case "insult":
                if (x.pride[m] == 0) {
                    return false;
                }
                x.pride[m] = 0;
                if (x.in[m]) {
                    x.lift = floors - 1;
                }
                return true;
            case "go":
                if (inside(x) == 0) {
                    return false;
                }
                x.lift = goes(x.lift, load(x));
                for (int i = 0; i < men.size(); i++) {
                    x.rode[i] += x.in[i] ? 1 : 0;
                }
                return true;
            case "walk":
                if (x.in[m] || x.floor[m] == b) {
                    return false;
                }
                x.floor[m] = b;
                return true;
            default:
                if (x.day >= 400) {
                    return false;
                }
                night(x);
                return true;
        }
    }

    private void night(Now x) {
        for (int m = 0; m < men.size(); m++) {
            x.pride[m] >>= 1;
            if (x.in[m]) {
                x.in[m] = false;
                x.floor[m] = x.lift;
            }
            java.util.Arrays.fill(x.heard[m], 0);
        }
        x.day++;
    }

    private int heavy(Now x, int m) {
        return men.get(m).weight + x.pride[m];
    }

    private int load(Now x) {
        int sum = 0;
        for (int m = 0; m < men.size(); m++) {
            sum += x.in[m] ? heavy(x, m) : 0;
        }
        return sum;
    }

    private int goes(int from, int load) {
        if (load > piano) {
            return Math.min(floors - 1, from + (load - piano) / 10 + 1);
        }
        if (load < piano) {
            return Math.max(0, from - (piano - load) / 10 - 1);
        }
        return from;
    }

    private int floorOf(Now x, int m) {
        return x.in[m] ? x.lift : x.floor[m];
    }

    private int swellNow(Now x, int m, int c) {
        return swell(cards.get(c).praise, cards.get(c).truth, men.get(m).vanity, men.get(m).weight, x.pride[m], x.heard[m][c], x.rode[m], floorOf(x, m), m);
    }

    long book(int n) {
        open(n, 60);
        int[] lines = new int[7];
        java.util.Arrays.fill(lines, -1);
        int many = 0;
        try {
            while (next().kind != 'e') {
                int place = next().place;
                int m = number(0, men.size() - 1);
                if (lines[m] >= 0) {
                    throw new Fault(2, place);
                }
                lines[m] = number(0, 999);
                sign(";");
                many++;
            }
        } catch (Fault fault) {
            return failed(fault);
        }
        book = lines;
        return many;
    }

    long fault() {
        return faultPlace;
    }

    long undo() {
        if (works.isEmpty()) {
            return -1;
        }
        now = works.remove(works.size() - 1);
        refusedSteps = 0;
        return works.size();
    }

    long told(int what) {
        argument(what >= 0 && what <= 11);
        int bits = 0;
        int lines = 0;
        for (int m = 0; m < men.size(); m++) {
            bits |= now.in[m] ? 1 << m : 0;
            lines += book[m] >= 0 ? 1 : 0;
        }
        int[] all = {floors, men.size(), cards.size(), now.day, now.lift, bits, load(now), now.bell, piano, lines, refusedSteps,
            bits == 0 ? now.lift : goes(now.lift, load(now))};
        return all[what];
    }

    long man(int m, int what) {
        manIs(m);
        argument(what >= 0 && what <= 7);
        int lies = 0;
        for (int c = 0; c < cards.size(); c++) {
            lies |= cards.get(c).truth < men.get(m).vanity ? 1 << c : 0;
        }
        int[] all = {floorOf(now, m), men.get(m).weight, men.get(m).vanity, now.pride[m], heavy(now, m), now.in[m] ? 1 : 0, now.rode[m], lies};
        return all[what];
    }

    long card(int c, int what) {
        cardIs(c);
        argument(what >= 0 && what <= 2);
        int sum = 0;
        for (int[] h : now.heard) {
            sum += h[c];
        }
        return what == 0 ? cards.get(c).praise : what == 1 ? cards.get(c).truth : sum;
    }

    long heard(int m, int c) {
        manIs(m);
        cardIs(c);
        return now.heard[m][c];
    }

    long swells(int m, int c) {
        manIs(m);
        cardIs(c);
        return swellNow(now, m, c);
    }

    long would(int... nine) {
        int[] least = {1, 0, 0, 1, 0, 0, 0, 0, 0};
        int[] most = {20, 9, 9, 60, 900, 9, 999, 11, 6};
        for (int i = 0; i < 9; i++) {
            argument(nine[i] >= least[i] && nine[i] <= most[i]);
        }
        return swell(nine);
    }

    long ahead(int n, int what) {
        argument(n >= 0 && n <= 99 && what >= 0 && what <= 2);
        Now x = now.copy();
        boolean[] in = now.in.clone();
        for (int i = 0; i < n; i++) {
            if (what == 0) {
                one(x, "go", 0, 0);
            } else {
                night(x);
            }
        }
        if (what == 0) {
            return x.lift;
        }
        int loads = 0;
        int prides = 0;
        for (int m = 0; m < men.size(); m++) {
            loads += in[m] ? heavy(x, m) : 0;
            prides += x.pride[m];
        }
        return what == 1 ? loads : prides;
    }

    long to(int floor) {
        argument(floor >= 0 && floor < floors);
        if (inside(now) == 0) {
            return -1;
        }
        for (int size = 0; size <= cards.size(); size++) {
            sets:
            for (int set = 0; set < 1 << cards.size(); set++) {
                if (Integer.bitCount(set) != size) {
                    continue;
                }
                int sum = load(now);
                for (int c = 0; c < cards.size(); c++) {
                    if ((set >> c & 1) == 0) {
                        continue;
                    }
                    int best = -1;
                    for (int m = 0; m < men.size(); m++) {
                        if (now.in[m] && now.heard[m][c] < 9) {
                            best = Math.max(best, swellNow(now, m, c));
                        }
                    }
                    if (best < 0) {
                        continue sets;
                    }
                    sum += best;
                }
                if (goes(now.lift, sum) == floor) {
                    return set;
                }
            }
        }
        return -1;
    }

    long rides() {
        return mostRides(0, new int[7], new int[7], 0);
    }

    /** Each man into one of the rides begun, a new one, or none. */
    private int mostRides(int m, int[] heavies, int[] sizes, int many) {
        if (m == men.size()) {
            int good = 0;
            for (int i = 0; i < many; i++) {
                good += heavies[i] > piano ? 1 : 0;
            }
            return good;
        }
        int best = mostRides(m + 1, heavies, sizes, many);
        for (int i = 0; i <= many && i < 7; i++) {
            if (sizes[i] == 4) {
                continue;
            }
            heavies[i] += heavy(now, m);
            sizes[i]++;
            best = Math.max(best, mostRides(m + 1, heavies, sizes, Math.max(many, i + 1)));
            heavies[i] -= heavy(now, m);
            sizes[i]--;
        }
        return best;
    }

    long couple(int what) {
        argument(what == 0 || what == 1);
        if (men.size() < 2) {
            return -1;
        }
        for (int apart = 0; ; apart++) {
            for (int i = 0; i < men.size(); i++) {
                for (int j = i + 1; j < men.size(); j++) {
                    int sum = heavy(now, i) + heavy(now, j);
                    if (sum == piano + apart || sum == piano - apart) {
                        return what == 0 ? 10 * i + j : apart;
                    }
                }
            }
        }
    }

    long meet(int what) {
        argument(what == 0 || what == 1);
        int best = 0;
        int least = Integer.MAX_VALUE;
        for (int f = floors - 1; f >= 0; f--) {
            int sum = 0;
            for (int m = 0; m < men.size(); m++) {
                sum += Math.abs(f - floorOf(now, m));
            }
            if (sum <= least) {
                least = sum;
                best = f;
            }
        }
        return what == 0 ? best : least;
    }

    long cheapest(int m) {
        manIs(m);
        int load = load(now) + (now.in[m] ? 0 : heavy(now, m));
        for (int s = 0; s <= 40; s++) {
            for (int c = 0; c < cards.size(); c++) {
                if (now.heard[m][c] < 9 && swellNow(now, m, c) == s && load + s > piano) {
                    return c;
                }
            }
        }
        return -1;
    }

    /** Of each pair that fits: the man, the card, and how heavy all are by it. */
    private List<int[]> pairs() {
        List<int[]> all = new ArrayList<>();
        for (int m = 0; m < men.size(); m++) {
            for (int c = 0; c < cards.size(); c++) {
                int[] row = new int[9];
                boolean right = true;
                for (int i = 0; i < men.size(); i++) {
                    row[i] = men.get(i).weight + (i == m ? Math.min(900, now.pride[i] + swellNow(now, m, c)) : now.pride[i]);
                    right &= book[i] < 0 || book[i] == row[i];
                }
                row[7] = m;
                row[8] = c;
                if (right) {
                    all.add(row);
                }
            }
        }
        return all;
    }

    long fits(int what) {
        argument(what == 0 || what == 1);
        List<int[]> all = pairs();
        if (what == 0) {
            return all.size();
        }
        return all.isEmpty() ? -1 : 10 * all.get(0)[7] + all.get(0)[8];
    }

    long look(int what) {
        argument(what == 0 || what == 1);
        List<int[]> all = pairs();
        int best = -1;
        int least = -1;
        for (int m = 0; m < men.size(); m++) {
            if (book[m] >= 0) {
                continue;
            }
            int worst = 0;
            for (int h = 0; h <= 999; h++) {
                int many = 0;
                for (int[] row : all) {
                    many += row[m] == h ? 1 : 0;
                }
                worst = Math.max(worst, many);
            }
            if (best < 0 || worst < least) {
                best = m;
                least = worst;
            }
        }
        return what == 0 ? best : least;
    }

    long streak(int n, int k, int q, int part) {
        argument(n >= 0 && n <= 12 && k >= 1 && k <= 12 && q >= 0 && q <= 16 && (part == 0 || part == 1));
        BigInteger sum = BigInteger.ZERO;
        for (int words = 0; words < 1 << n; words++) {
            int run = 0;
            int longest = 0;
            for (int i = 0; i < n; i++) {
                run = (words >> i & 1) == 1 ? run + 1 : 0;
                longest = Math.max(longest, run);
            }
            if (longest < k) {
                int kind = Integer.bitCount(words);
                sum = sum.add(BigInteger.valueOf(q).pow(kind).multiply(BigInteger.valueOf(16 - q).pow(n - kind)));
            }
        }
        BigInteger below = BigInteger.valueOf(16).pow(n);
        BigInteger shared = sum.gcd(below);
        return (part == 0 ? sum : below).divide(shared).longValueExact();
    }

    long flatter(int v, int w, int what) {
        argument(v >= 0 && v <= 99 && w >= 0 && w <= 99 && what >= 0 && what <= 2);
        int[][] one = {{v - w, -w}, {v, 0}};
        int many = 0;
        int first = -1;
        int both = 0;
        for (int a = 0; a < 2; a++) {
            for (int b = 0; b < 2; b++) {
                if (one[1 - a][b] > one[a][b] || one[1 - b][a] > one[b][a]) {
                    continue;
                }
                if (many++ == 0) {
                    first = 10 * a + b;
                    both = one[a][b] + one[b][a];
                }
            }
        }
        return what == 0 ? many : what == 1 ? first : both;
    }

    long breath(int m, int set, int n) {
        manIs(m);
        argument((set & ~((1 << men.size()) - 1)) == 0);
        argument(n >= 0 && n <= 9999);
        if ((set >> m & 1) == 0) {
            return 0;
        }
        int bound = 0;
        while (bound <= 1000) {
            int sum = 0;
            for (int i = 0; i < men.size(); i++) {
                sum += (set >> i & 1) == 0 ? 0 : Math.min(now.pride[i], bound + 1);
            }
            if (sum > n) {
                break;
            }
            bound++;
        }
        return Math.min(bound, now.pride[m]);
    }

    long heaviest(int what) {
        argument(what == 0 || what == 1);
        for (int h = 999; h >= 0; h--) {
            for (int m = 0; m < men.size(); m++) {
                if (heavy(now, m) == h) {
                    return what == 0 ? m : h;
                }
            }
        }
        return -1;
    }

    long waiting() {
        int set = 0;
        for (int m = 0; m < men.size(); m++) {
            set |= one(now.copy(), "enter", m, 0) ? 1 << m : 0;
        }
        return set;
    }

    long floor(int f) {
        argument(f >= 0 && f < floors);
        int set = 0;
        for (int m = 0; m < men.size(); m++) {
            set |= !now.in[m] && now.floor[m] == f ? 1 << m : 0;
        }
        return set;
    }

    private long sweet(int m, int what, boolean lies) {
        for (int s = 40; s >= 0; s--) {
            for (int c = 0; c < cards.size(); c++) {
                if ((lies || cards.get(c).truth >= men.get(m).vanity) && swellNow(now, m, c) == s) {
                    return what == 0 ? c : s;
                }
            }
        }
        return -1;
    }

    long sweetest(int m, int what) {
        manIs(m);
        argument(what == 0 || what == 1);
        return sweet(m, what, true);
    }

    long lacks() {
        return piano + 1 - load(now);
    }

    long truest(int m, int what) {
        manIs(m);
        argument(what == 0 || what == 1);
        return sweet(m, what, false);
    }

    long proud(int what) {
        argument(what == 0 || what == 1);
        int set = 0;
        for (int m = 0; m < men.size(); m++) {
            set |= now.pride[m] > (what == 0 ? 0 : men.get(m).weight) ? 1 << m : 0;
        }
        return set;
    }

    long liked(int c) {
        cardIs(c);
        for (int s = 40; s >= 0; s--) {
            for (int m = 0; m < men.size(); m++) {
                if (swellNow(now, m, c) == s) {
                    return m;
                }
            }
        }
        return -1;
    }

    long above(int m) {
        manIs(m);
        int set = 0;
        for (int i = 0; i < men.size(); i++) {
            set |= floorOf(now, i) > floorOf(now, m) ? 1 << i : 0;
        }
        return set;
    }

    long ride(int set) {
        argument((set & ~((1 << men.size()) - 1)) == 0);
        int sum = 0;
        for (int m = 0; m < men.size(); m++) {
            sum += (set >> m & 1) == 1 ? heavy(now, m) : 0;
        }
        return set == 0 ? now.lift : goes(now.lift, sum);
    }

    long vacant() {
        int set = 0;
        for (int f = 0; f < floors; f++) {
            boolean somebody = false;
            for (int m = 0; m < men.size(); m++) {
                somebody |= floorOf(now, m) == f;
            }
            set |= somebody ? 0 : 1 << f;
        }
        return set;
    }

    long times(int m, int c, int n) {
        manIs(m);
        cardIs(c);
        argument(n >= 0 && n <= 999);
        Now x = now.copy();
        int often = 0;
        while (heavy(x, m) < n) {
            if (!one(x, "say", m, c)) {
                return -1;
            }
            often++;
        }
        return often;
    }

    private int seed;

    private int draw(int by) {
        BigInteger next = BigInteger.valueOf(seed & 0xffffffffL).multiply(BigInteger.valueOf(1103515245L)).add(BigInteger.valueOf(12345L));
        seed = next.intValue();
        return next.shiftRight(16).mod(BigInteger.valueOf(32768)).intValue() % by;
    }

    private Now weekOf(int from, int q, int days) {
        Now x = now.copy();
        seed = from;
        for (int d = 0; d < days; d++) {
            for (int i = 0; i < 4 && !men.isEmpty() && !cards.isEmpty(); i++) {
                int m = draw(men.size());
                int c = draw(cards.size());
                one(x, "say", m, c);
                if (!one(x, "enter", m, 0)) {
                    one(x, "leave", m, 0);
                }
                one(x, "go", 0, 0);
                if (draw(16) < q) {
                    one(x, "insult", m, 0);
                }
            }
            night(x);
        }
        return x;
    }

    private int ridesIn(Now x) {
        int sum = 0;
        for (int m = 0; m < men.size(); m++) {
            sum += x.rode[m] - now.rode[m];
        }
        return sum;
    }

    long week(int from, int q, int days, int what) {
        argument(q >= 0 && q <= 16 && days >= 1 && days <= 48 && what >= 0 && what <= 3);
        Now x = weekOf(from, q, days);
        int prides = 0;
        for (int p : x.pride) {
            prides += p;
        }
        int[] all = {x.bell - now.bell, x.lift, ridesIn(x), prides};
        return all[what];
    }

    long span(int from, int many, int q, int days, int what, int m) {
        argument(many >= 1 && many <= 10 && q >= 0 && q <= 16 && days >= 1 && days <= 48 && what >= 0 && what <= 2);
        argument(m >= 0 && m < men.size());
        int least = Integer.MAX_VALUE;
        int most = 0;
        int up = 0;
        for (int i = 0; i < many; i++) {
            Now x = weekOf(from + i, q, days);
            least = Math.min(least, ridesIn(x));
            most = Math.max(most, ridesIn(x));
            up += floorOf(x, m) > 0 ? 1 : 0;
        }
        return what == 0 ? least : what == 1 ? most : up;
    }

    long image() {
        if (pictures.size() == 3) {
            return -1;
        }
        List<Now> kept = new ArrayList<>();
        for (Now w : works) {
            kept.add(w.copy());
        }
        pictures.add(new Picture(now.copy(), kept));
        return pictures.size();
    }

    long restore() {
        if (pictures.isEmpty()) {
            return -1;
        }
        Picture last = pictures.remove(pictures.size() - 1);
        now = last.now;
        works = last.works;
        refusedSteps = 0;
        return pictures.size();
    }

    long status(int what) {
        return what == 0 ? nobody : what == 1 ? arguments : -1;
    }

    long count(int what) {
        return what == 0 ? pictures.size() : what == 1 ? tape.length() : what == 2 ? works.size() : -1;
    }
}
