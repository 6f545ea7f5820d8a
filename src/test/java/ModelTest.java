import java.util.Random;

/** Runs of drawn calls (by fixed seeds), answered by the class and by the plain model alike. */
public final class ModelTest {
    private static final int RUNS = 400;
    private static final int CALLS = 512;

    private final Random random;
    private final PraiseLift x = new PraiseLift();
    private final Model y = new Model();
    private final StringBuilder story = new StringBuilder();
    private int men = 0;
    private int cards = 0;
    private int floors = 6;
    private int asked = 0;

    private ModelTest(long seed) {
        random = new Random(seed);
    }

    public static void main(String[] args) {
        int runs = args.length > 0 ? Integer.parseInt(args[0]) : RUNS;
        int base = args.length > 1 ? Integer.parseInt(args[1]) : 0;
        int asked = 0;
        for (int run = 0; run < runs; run++) {
            ModelTest test = new ModelTest(base + run);
            if (!test.run()) {
                System.out.println("run " + (base + run) + " differs:\n" + test.story);
                System.exit(1);
            }
            asked += test.asked;
        }
        System.out.println("ModelTest: " + runs + " runs, " + asked + " answers");
    }

    private boolean run() {
        for (int i = 0; i < CALLS; i++) {
            if (!step()) {
                return false;
            }
        }
        return true;
    }

    private boolean same(String what, Check.Call mine, Check.Call models) {
        asked++;
        int kind = 0;
        long got = 0;
        try {
            got = mine.answer();
        } catch (java.util.NoSuchElementException e) {
            kind = 1;
        } catch (IllegalArgumentException e) {
            kind = 2;
        }
        int wantKind = 0;
        long want = 0;
        try {
            want = models.answer();
        } catch (java.util.NoSuchElementException e) {
            wantKind = 1;
        } catch (IllegalArgumentException e) {
            wantKind = 2;
        }
        story.append(what).append(" => ").append(kind == 0 ? "" + got : "throws " + kind).append('\n');
        if (kind != wantKind || got != want) {
            story.append("  due is ").append(wantKind == 0 ? "" + want : "throws " + wantKind).append('\n');
            return false;
        }
        return true;
    }

    // ---- what is drawn ----

    private int below(int n) {
        return random.nextInt(n);
    }

    /** Mostly from least to most, now and then just outside. */
    private int near(int least, int most) {
        if (below(25) == 0) {
            return below(2) == 0 ? least - 1 : most + 1;
        }
        if (below(300) == 0) {
            return random.nextInt();
        }
        return least + below(Math.max(1, most - least + 1));
    }

    private String blanks() {
        return below(6) == 0 ? " ".repeat(1 + below(2)) : "";
    }

    private String num(int n) {
        return " " + blanks() + (below(30) == 0 ? "00" : "") + n;
    }

    private String end() {
        return blanks() + ";" + blanks();
    }

    private String houseText() {
        StringBuilder s = new StringBuilder();
        if (below(5) > 0) {
            floors = below(12) == 0 ? near(2, 12) : 2 + below(11);
            s.append("floors").append(num(floors)).append(end());
        }
        int f = Math.max(1, floors);
        int wantMen = below(6) == 0 ? below(8) : 3 + below(5);
        int wantCards = below(6) == 0 ? below(9) : 3 + below(6);
        int piano = below(4) == 0 ? below(30) : 20 + below(200);
        int extra = below(40) == 0 ? 1 : 0;
        if (below(40) == 0) {
            return "piano 7;".repeat(58 + below(4)) + (below(2) == 0 ? "x" : "card 1 1;");
        }
        for (int i = 0; i < wantMen + extra * 3; i++) {
            s.append("man").append(num(below(3) > 0 ? 0 : below(f))).append(num(1 + below(60))).append(num(below(10))).append(end());
        }
        for (int i = 0; i < wantCards + extra * 2; i++) {
            s.append("card").append(num(1 + below(20))).append(num(below(10))).append(end());
        }
        if (below(5) > 0) {
            s.append("piano").append(num(piano)).append(end());
        }
        return s.toString();
    }

    private String sum(int depth) {
        StringBuilder s = new StringBuilder(product(depth));
        while (below(3) == 0) {
            s.append(blanks()).append("+-".charAt(below(2))).append(blanks()).append(product(depth));
        }
        return s.toString();
    }

    private String product(int depth) {
        StringBuilder s = new StringBuilder(unit(depth));
        while (below(4) == 0) {
            s.append(blanks()).append("*/%".charAt(below(3))).append(blanks()).append(unit(depth));
        }
        return s.toString();
    }

    private String unit(int depth) {
        String[] facts = {"praise", "true", "vanity", "weight", "pride", "heard", "rides", "floor", "man"};
        int pick = below(10);
        if (depth > 0 && pick < 2) {
            return "(" + blanks() + sum(depth - 1) + blanks() + ")";
        }
        if (depth > 0 && pick == 2) {
            return (below(2) == 0 ? "least" : "most") + blanks() + "[" + sum(depth - 1) + blanks() + "," + sum(depth - 1) + "]";
        }
        if (pick < 5) {
            return "" + (below(3) == 0 ? below(1000) : below(12));
        }
        return facts[below(9)];
    }

    private String lawText() {
        if (below(20) == 0) {
            return "(".repeat(5 + below(4)) + "praise" + ")".repeat(5 + below(4));
        }
        if (below(20) == 0) {
            String s = "praise";
            for (int i = below(9); i > 0; i--) {
                s = below(2) == 0 ? "(" + s + ")" : "least[" + s + ",9]";
            }
            return s;
        }
        return below(6) == 0 ? "" + (10 + below(40)) : below(3) == 0 ? "praise + vanity - heard * 2 + " + product(1) : sum(3);
    }

    private String stepsText(int depth, int room) {
        StringBuilder s = new StringBuilder();
        int many = 1 + below(9);
        for (int i = 0; i < many && s.length() < room; i++) {
            String m = num(below(Math.max(1, men)));
            switch (below(20)) {
                case 0: case 1: case 2: case 3: case 4: s.append("enter").append(m); break;
                case 5: s.append("leave").append(m); break;
                case 6: case 7: case 8: case 9: case 10: s.append("say").append(m).append(num(below(Math.max(1, cards)))); break;
                case 11: s.append("insult").append(m); break;
                case 12: case 13: case 14: s.append("go"); break;
                case 15: case 16: s.append("walk").append(m).append(num(below(3) > 0 ? x.told(4) : below(floors))); break;
                case 17: s.append(below(4) == 0 ? "night" : "go"); break;
                default:
                    if (depth == 0) {
                        s.append("go");
                    } else {
                        s.append("again").append(num(below(31))).append(blanks()).append("[").append(stepsText(depth - 1, room / 2)).append("]");
                    }
                    break;
            }
            s.append(end());
        }
        return s.toString();
    }

    private String workText() {
        if (below(40) == 0) {
            return "again 30[again 30[night;];];";
        }
        if (below(12) == 0) {
            StringBuilder s = new StringBuilder("again " + (5 + below(9)) + "[");
            int m = below(Math.max(1, men));
            for (int c = 0; c < Math.max(1, cards); c++) {
                s.append("say ").append(m).append(' ').append(c).append(';');
            }
            return s.append("];").toString();
        }
        if (below(25) == 0) {
            int deep = 4 + below(5);
            return "again 2[".repeat(deep) + "go;" + "];".repeat(deep);
        }
        return stepsText(2, 140);
    }

    private String bookText() {
        StringBuilder s = new StringBuilder();
        for (int m = 0; m < men; m++) {
            if (below(3) == 0) {
                int heavy = x.man(m, 4);
                int said = cards > 0 && below(2) == 0 ? x.swells(m, below(cards)) : 0;
                s.append(num(m)).append(num(below(4) == 0 ? below(100) : Math.min(999, heavy + said))).append(end());
            }
        }
        if (below(20) == 0) {
            s.append(num(below(8))).append(num(below(1002))).append(end());
        }
        return s.toString();
    }

    private String spoilt(String text) {
        if (below(9) != 0) {
            return text;
        }
        StringBuilder s = new StringBuilder(text);
        for (int i = 1 + below(2); i > 0; i--) {
            int place = below(s.length() + 1);
            String signs = " ;[](),+-*/%0123456789abgmstA" + (char) 200 + (char) 0;
            char c = signs.charAt(below(signs.length()));
            if (place == s.length() || below(3) == 0) {
                s.insert(place, c);
            } else if (below(2) == 0) {
                s.setCharAt(place, c);
            } else {
                s.deleteCharAt(place);
            }
        }
        if (below(4) == 0) {
            s.setLength(below(s.length() + 1));
        }
        return s.toString();
    }

    // ---- calls ----

    private boolean feedText(String text) {
        for (int from = 0; from < text.length(); from += 20) {
            int[] f = new int[5];
            for (int i = 0; i < 20; i++) {
                int sign = from + i < text.length() ? text.charAt(from + i) : below(3) == 0 ? 200 : 32;
                f[i / 4] = f[i / 4] << 8 | sign & 255;
            }
            if (!same("feed", () -> x.feed(f[0], f[1], f[2], f[3], f[4]), () -> y.feed(f))) {
                return false;
            }
        }
        story.append("text '").append(text).append("'\n");
        return true;
    }

    private boolean text() {
        int kind = below(20) == 0 ? 0 : 1 + below(11);
        // a law, a work or a book that stands a while makes longer stories than a new house does
        if (kind == 0 || asked < 3) {
            String text = spoilt(houseText());
            if (text.length() > 600) {
                text = text.substring(0, 600);
            }
            int n = Math.min(text.length(), 600);
            if (!feedText(text) || !same("house(" + n + ")", () -> x.house(n), () -> y.house(n))) {
                return false;
            }
            men = x.told(1);
            cards = x.told(2);
            floors = x.told(0);
            return same("fault()", x::fault, y::fault);
        }
        String text = spoilt(kind < 3 ? lawText() : kind < 10 ? workText() : bookText());
        if (!feedText(text.substring(0, Math.min(text.length(), 200)))) {
            return false;
        }
        int n = below(30) == 0 ? near(0, 150) : Math.min(text.length(), kind < 10 ? 150 : 60);
        boolean fine = kind < 3 ? same("law(" + n + ")", () -> x.law(n), () -> y.law(n))
                : kind < 10 ? same("work(" + n + ")", () -> x.work(n), () -> y.work(n))
                : same("book(" + n + ")", () -> x.book(n), () -> y.book(n));
        return fine && same("fault()", x::fault, y::fault);
    }

    private int anyMan() {
        return near(0, men - 1);
    }

    private int anyCard() {
        return near(0, cards - 1);
    }

    private int anySet() {
        return near(0, (1 << men) - 1);
    }

    private boolean step() {
        int pick = below(60);
        if (pick < 12 || asked < 3) {
            return text();
        }
        return pick < 36 ? plain(pick) : pick < 52 ? asking(pick) : keeping(pick);
    }

    private boolean plain(int pick) {
        int m = anyMan();
        int c = anyCard();
        int what = near(0, 1);
        switch (pick) {
            case 12: case 13: {
                int w = near(0, 11);
                return same("told(" + w + ")", () -> x.told(w), () -> y.told(w));
            }
            case 14: case 15: {
                int w = near(0, 7);
                return same("man(" + m + ", " + w + ")", () -> x.man(m, w), () -> y.man(m, w));
            }
            case 16: {
                int w = near(0, 2);
                return same("card(" + c + ", " + w + ")", () -> x.card(c, w), () -> y.card(c, w));
            }
            case 17: return same("heard(" + m + ", " + c + ")", () -> x.heard(m, c), () -> y.heard(m, c));
            case 18: return same("swells(" + m + ", " + c + ")", () -> x.swells(m, c), () -> y.swells(m, c));
            case 19: {
                int[] w = {near(1, 20), near(0, 9), near(0, 9), near(1, 60), near(0, 900), near(0, 9), near(0, 999), near(0, 11), near(0, 6)};
                return same("would" + java.util.Arrays.toString(w), () -> x.would(w[0], w[1], w[2], w[3], w[4], w[5], w[6], w[7], w[8]), () -> y.would(w));
            }
            case 20: return same("heaviest(" + what + ")", () -> x.heaviest(what), () -> y.heaviest(what));
            case 21: return same("waiting()", x::waiting, y::waiting);
            case 22: {
                int f = near(0, floors - 1);
                return same("floor(" + f + ")", () -> x.floor(f), () -> y.floor(f));
            }
            case 23: return same("sweetest(" + m + ", " + what + ")", () -> x.sweetest(m, what), () -> y.sweetest(m, what));
            case 24: return same("lacks()", x::lacks, y::lacks);
            case 25: return same("truest(" + m + ", " + what + ")", () -> x.truest(m, what), () -> y.truest(m, what));
            case 26: return same("proud(" + what + ")", () -> x.proud(what), () -> y.proud(what));
            case 27: return same("liked(" + c + ")", () -> x.liked(c), () -> y.liked(c));
            case 28: return same("above(" + m + ")", () -> x.above(m), () -> y.above(m));
            case 29: {
                int set = anySet();
                return same("ride(" + set + ")", () -> x.ride(set), () -> y.ride(set));
            }
            case 30: return same("vacant()", x::vacant, y::vacant);
            case 31: case 32: {
                int n = below(2) == 0 ? near(0, 999) : near(0, 150);
                return same("times(" + m + ", " + c + ", " + n + ")", () -> x.times(m, c, n), () -> y.times(m, c, n));
            }
            case 33: return same("meet(" + what + ")", () -> x.meet(what), () -> y.meet(what));
            case 34: return same("couple(" + what + ")", () -> x.couple(what), () -> y.couple(what));
            default: return same("rides()", x::rides, y::rides);
        }
    }

    private boolean asking(int pick) {
        int m = anyMan();
        int what = near(0, 1);
        int what2 = near(0, 2);
        int q = near(0, 16);
        int days = below(3) == 0 ? near(1, 48) : 1 + below(4);
        int seed = below(3) == 0 ? random.nextInt() : below(10) == 0 ? Integer.MAX_VALUE - below(4) : below(100);
        switch (pick) {
            case 36: {
                int n = near(0, below(2) == 0 ? 99 : 5);
                return same("ahead(" + n + ", " + what2 + ")", () -> x.ahead(n, what2), () -> y.ahead(n, what2));
            }
            case 37: case 38: case 39: {
                int f = near(0, floors - 1);
                return same("to(" + f + ")", () -> x.to(f), () -> y.to(f));
            }
            case 40: case 41: return same("cheapest(" + m + ")", () -> x.cheapest(m), () -> y.cheapest(m));
            case 42: return same("fits(" + what + ")", () -> x.fits(what), () -> y.fits(what));
            case 43: case 44: return same("look(" + what + ")", () -> x.look(what), () -> y.look(what));
            case 45: {
                int n = near(0, 12);
                int k = near(1, 12);
                return same("streak(" + n + ", " + k + ", " + q + ", " + what + ")", () -> x.streak(n, k, q, what), () -> y.streak(n, k, q, what));
            }
            case 46: {
                int v = near(0, 99);
                int w = below(3) == 0 ? 0 : near(0, 99);
                return same("flatter(" + v + ", " + w + ", " + what2 + ")", () -> x.flatter(v, w, what2), () -> y.flatter(v, w, what2));
            }
            case 47: case 48: {
                int set = anySet();
                int n = below(4) == 0 ? near(0, 9999) : near(0, 200);
                return same("breath(" + m + ", " + set + ", " + n + ")", () -> x.breath(m, set, n), () -> y.breath(m, set, n));
            }
            case 49: case 50: {
                int w = near(0, 3);
                return same("week(" + seed + ", " + q + ", " + days + ", " + w + ")", () -> x.week(seed, q, days, w), () -> y.week(seed, q, days, w));
            }
            default: {
                int many = near(1, 10);
                return same("span(" + seed + ", " + many + ", " + q + ", " + days + ", " + what2 + ", " + m + ")",
                        () -> x.span(seed, many, q, days, what2, m), () -> y.span(seed, many, q, days, what2, m));
            }
        }
    }

    private boolean keeping(int pick) {
        int what = near(0, 2);
        switch (pick) {
            case 52: case 53: return same("undo()", x::undo, y::undo);
            case 54: return same("image()", x::image, y::image);
            case 55: return below(3) > 0 || same("restore()", x::restore, y::restore);
            case 56: return same("status(" + what + ")", () -> x.status(what), () -> y.status(what));
            case 57: return same("told(10)", () -> x.told(10), () -> y.told(10));
            default: return same("count(" + what + ")", () -> x.count(what), () -> y.count(what));
        }
    }
}
