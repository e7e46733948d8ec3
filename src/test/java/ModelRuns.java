import java.util.ArrayList;
import java.util.Comparator;
import java.util.List;
import java.util.Random;

/**
 * Random runs of calls, each answered by FieldPost and by a slow second reading of the document.
 * The reading is built otherwise on purpose: TEXTS are split instead of parsed, FAULTS are found by
 * an automaton, FAR is counted anew for each question, OFFICES are gone through one by one.
 */
public final class ModelRuns {
    private static final int RUNS = 1500;
    private static final int CALLS = 512;
    private static int wrong = 0;

    public static void main(String[] args) {
        long runs = args.length > 0 ? Long.parseLong(args[0]) : RUNS;
        long seed = args.length > 1 ? Long.parseLong(args[1]) : 1;
        int[] reached = new int[22];
        for (int run = 0; run < runs && wrong < 20; run++) {
            new Run(seed * 1000003 + run, reached).play();
        }
        String[] names = {"GIVEN", "RETURNED", "BURNT", "SPOILT", "WORD 1", "WORD 2", "WORD 3", "WORD 4",
            "TO AND FRO", "TRACE full", "AFTER told", "holds", "12 OFFICES", "24 WAYS", "40 SHUT", "60 MOVES", "40 MEN",
            "80 STATES", "60 MAILS", "30 ORDERS", "7 SACKS", "HOUR 2000"};
        StringBuilder told = new StringBuilder("seen:");
        for (int i = 0; i < names.length; i++) {
            told.append(' ').append(names[i]).append(' ').append(reached[i]).append(i + 1 < names.length ? "," : "");
            if (reached[i] == 0 && args.length == 0) {
                wrong++;
                System.out.println("no run came to: " + names[i]);
            }
        }
        System.out.println(told);
        System.out.println(wrong == 0 ? runs + " runs are as due" : wrong + " answers are not as due");
        if (wrong != 0) {
            System.exit(1);
        }
    }

    /** One run on one object. */
    private static final class Run {
        final long seed;
        final int[] reached;
        final Random random;
        final FieldPost post = new FieldPost();
        final Model model = new Model();
        final List<String> calls = new ArrayList<>();
        final boolean calm;
        /** A kind of call that this run loves, so that the document's limits are come to. */
        final int hobby;
        boolean off = false;

        Run(long seed, int[] reached) {
            this.seed = seed;
            this.reached = reached;
            this.random = new Random(seed);
            this.calm = random.nextInt(4) != 0;
            this.hobby = random.nextInt(30);
        }

        int below(int n) {
            return random.nextInt(n);
        }

        boolean once(int in) {
            return random.nextInt(in) == 0;
        }

        /** Mostly from least to greatest, now and then an edge or beyond. */
        int number(int least, int greatest) {
            if (once(40)) {
                int[] edges = {least - 1, greatest + 1, least, greatest, Integer.MIN_VALUE, Integer.MAX_VALUE, -1};
                return edges[below(edges.length)];
            }
            return greatest <= least ? least : least + below(greatest - least + 1);
        }

        int anOffice() {
            return number(0, model.offices.size() - 1);
        }

        int aMail() {
            return number(0, model.mails.size() - 1);
        }

        int aMan() {
            return number(0, model.men.size() - 1);
        }

        int aUnit() {
            return once(30) ? number(0, 15) : below(3);
        }

        void due(String call, int got, int want) {
            calls.add(call + " -> " + want);
            if (got != want && !off) {
                off = true;
                wrong++;
                System.out.println("run " + seed + ", call " + calls.size() + ": " + call + " answered " + got + ", due is " + want);
                for (int i = Math.max(0, calls.size() - 25); i < calls.size(); i++) {
                    System.out.println("    " + calls.get(i));
                }
            }
        }

        void play() {
            if (once(8)) {
                twoThatDiffer();
            }
            int offices = 2 + below(calm ? 4 : 10);
            for (int i = 0; i < offices; i++) {
                office();
            }
            for (int i = 0; i < offices + below(4); i++) {
                way();
            }
            for (int i = 0; i < 3; i++) {
                man();
                move();
            }
            while (calls.size() < CALLS - 100 && !off) {
                call();
            }
            askAtTheEnd();
            tallyLimits();
            for (int mail = 0; mail < model.mails.size(); mail++) {
                tally(mail);
            }
        }

        /** OFFICE 1 hears two days late what OFFICE 2 knows at once: MAILS go to and fro for long. */
        void twoThatDiffer() {
            due("office(9, true)", post.office(9, true), model.office(9, true));
            due("office(9, false)", post.office(9, false), model.office(9, false));
            due("office(9, true)", post.office(9, true), model.office(9, true));
            due("way(0, 1, 48, 0, 1)", post.way(0, 1, 48, 0, 1), model.way(0, 1, 48, 0, 1));
            due("way(2, 1, 1, 0, 1)", post.way(2, 1, 1, 0, 1), model.way(2, 1, 1, 0, 1));
            due("man(0, 1234)", post.man(0, 1234), model.man(0, 1234));
            due("move(0, 2, 0)", post.move(0, 2, 0), model.move(0, 2, 0));
            due("hours(50)", post.hours(50), model.hours(50));
            due("move(0, 1, 50)", post.move(0, 1, 50), model.move(0, 1, 50));
            due("mail(0, 1, 0, 5)", post.mail(0, 1, 0, 5), model.mail(0, 1, 0, 5));
            int n = below(60) + 1;
            due("hours(" + n + ")", post.hours(n), model.hours(n));
        }

        void office() {
            int hands = once(6) ? number(0, 99) : once(9) ? 0 : 1 + below(4);
            boolean wired = once(3);
            due("office(" + hands + ", " + wired + ")", post.office(hands, wired), model.office(hands, wired));
        }

        void way() {
            int a = anOffice();
            int b = once(3) ? anOffice() : model.offices.size() > 1 ? (a + 1) % model.offices.size() : a;
            int length = once(8) ? number(1, 48) : 1 + below(5);
            int first = once(8) ? number(0, 2000) : below(4);
            int every = once(8) ? number(1, 48) : 1 + below(4);
            due("way(" + a + ", " + b + ", " + length + ", " + first + ", " + every + ")",
                post.way(a, b, length, first, every), model.way(a, b, length, first, every));
        }

        void man() {
            int unit = aUnit();
            int name = once(2) ? number(0, 9999) : 1230 + below(12);
            due("man(" + unit + ", " + name + ")", post.man(unit, name), model.man(unit, name));
        }

        void move() {
            int unit = aUnit();
            int office = anOffice();
            int from = once(15) ? number(0, 2000) : model.hour + below(12);
            due("move(" + unit + ", " + office + ", " + from + ")", post.move(unit, office, from), model.move(unit, office, from));
        }

        void mail() {
            int kind = number(0, 2);
            int office = anOffice();
            int man = aMan();
            int weight = kind == 1 ? (once(5) ? number(1, 999) : 1 + below(15)) : kind == 2 ? number(0, 9999) : number(0, 99);
            due("mail(" + kind + ", " + office + ", " + man + ", " + weight + ")",
                post.mail(kind, office, man, weight), model.mail(kind, office, man, weight));
        }

        void order() {
            String text = calm ? new Texts(random).good() : new Texts(random).any();
            for (int i = 0; i < text.length(); i += 8) {
                int n = Math.min(8, text.length() - i);
                long bytes = 0;
                for (int j = n - 1; j >= 0; j--) {
                    bytes = bytes << 8 | text.charAt(i + j) & 255;
                }
                if (n < 8 && once(2)) {
                    bytes |= random.nextLong() << (8 * n);
                }
                feed(n, bytes);
            }
            int purpose = number(0, 2);
            due("order(" + purpose + ") of " + text, post.order(purpose), model.order(purpose));
        }

        void feed(int n, long bytes) {
            due("feed(" + n + ", " + bytes + "L)", post.feed(n, bytes), model.feed(n, bytes));
        }

        void hours() {
            int n = once(60) ? number(1, 2000) : once(6) ? 1 + below(20) : 1 + below(3);
            due("hours(" + n + ")", post.hours(n), model.hours(n));
        }

        void shut() {
            int way = number(0, model.ways.size() - 1);
            int from = once(6) ? number(0, 2000) : model.hour + below(6);
            int to = once(6) ? number(0, 2000) : from + below(12) - (once(12) ? 8 : 0);
            due("shut(" + way + ", " + from + ", " + to + ")", post.shut(way, from, to), model.shut(way, from, to));
        }

        void state() {
            int man = aMan();
            int state = once(3) ? number(0, 3) : below(2);
            int office = anOffice();
            due("state(" + man + ", " + state + ", " + office + ")", post.state(man, state, office), model.state(man, state, office));
        }

        void love() {
            switch (hobby) {
                case 0: office(); break;
                case 1: way(); break;
                case 2: man(); break;
                case 3: move(); break;
                case 4: mail(); break;
                case 5: state(); break;
                case 6: order(); break;
                case 7: shut(); break;
                case 8: shedCalls(); break;
                case 9: rollCalls(); break;
                case 10: feed(number(1, 8), random.nextLong()); break;
                default: ask(); break;
            }
        }

        void call() {
            if (once(4)) {
                love();
                return;
            }
            switch (below(40)) {
                case 0: if (once(8)) { office(); } break;
                case 1: if (once(2)) { way(); } break;
                case 2: if (once(3)) { man(); } break;
                case 3: case 4: if (once(2)) { move(); } break;
                case 5: case 6: mail(); break;
                case 7: case 8: case 9: case 10: case 11: case 12: hours(); break;
                case 13: if (once(3)) { state(); } break;
                case 14: if (once(4)) { order(); } break;
                case 15: if (once(6)) { feed(number(1, 8), random.nextLong()); } break;
                case 16: shedCalls(); break;
                case 17: netCalls(); break;
                case 18: rollCalls(); break;
                case 19: after(); break;
                default: ask(); break;
            }
        }

        void shedCalls() {
            switch (below(5)) {
                case 0: {
                    int time = once(5) ? number(1, 99) : 1 + below(5);
                    int train = once(5) ? number(1, 999) : 1 + below(20);
                    int letters = once(5) ? number(0, 9999) : below(4);
                    due("sack(" + time + ", " + train + ", " + letters + ")",
                        post.sack(time, train, letters), model.sack(time, train, letters));
                    break;
                }
                case 1: {
                    int what = number(0, 2);
                    due("best(" + what + ")", post.best(what), model.best(what));
                    break;
                }
                case 2: {
                    int what = number(0, 1);
                    due("judge(" + what + ")", post.judge(what), model.judge(what));
                    break;
                }
                default: {
                    int v = once(8) ? number(-128, 127) : below(7);
                    due("put(" + v + ")", post.put(v), model.put(v));
                }
            }
        }

        void netCalls() {
            switch (below(5)) {
                case 0: {
                    int office = anOffice();
                    int hands = once(3) ? number(0, 99) : 1 + below(4);
                    boolean wired = once(2);
                    due("staff(" + office + ", " + hands + ", " + wired + ")",
                        post.staff(office, hands, wired), model.staff(office, hands, wired));
                    break;
                }
                case 1: shut(); break;
                case 2: {
                    int a = anOffice();
                    int b = anOffice();
                    due("far(" + a + ", " + b + ")", post.far(a, b), model.far(a, b));
                    break;
                }
                case 3: {
                    int office = anOffice();
                    due("late(" + office + ")", post.late(office), model.late(office));
                    break;
                }
                default: {
                    int n = once(3) ? number(1, 999) : 1 + below(12);
                    due("keep(" + n + ")", post.keep(n), model.keep(n));
                }
            }
        }

        void rollCalls() {
            int unit = aUnit();
            int office = anOffice();
            int man = aMan();
            int hour = once(5) ? number(0, 2000) : model.hour + below(12) - 3;
            int digits = once(3) ? number(0, 14640) : coverOf(1230 + below(12));
            int shown = once(3) ? -1 : unit;
            switch (below(7)) {
                case 0: due("is(" + unit + ", " + hour + ")", post.is(unit, hour), model.is(unit, hour)); break;
                case 1: due("list(" + office + ", " + unit + ", " + hour + ")", post.list(office, unit, hour), model.list(office, unit, hour)); break;
                case 2: {
                    int by = once(2) ? -1 : office;
                    due("stateOf(" + man + ", " + hour + ", " + by + ")", post.stateOf(man, hour, by), model.stateOf(man, hour, by));
                    break;
                }
                case 3: due("manAt(" + man + ")", post.manAt(man), model.manAt(man)); break;
                case 4: due("cover(" + shown + ", " + digits + ")", post.cover(shown, digits), model.cover(shown, digits)); break;
                case 5: due("sure(" + shown + ", " + digits + ")", post.sure(shown, digits), model.sure(shown, digits)); break;
                default: due("paid(" + man + ")", post.paid(man), model.paid(man)); break;
            }
        }

        int coverOf(int name) {
            int digits = 0;
            for (int ten = 1000; ten > 0; ten /= 10) {
                digits = digits * 11 + (once(4) ? 10 : name / ten % 10);
            }
            return digits;
        }

        void after() {
            int latest = model.mails.size() - 1;
            int mail = once(3) ? aMail() : Math.max(0, latest - below(4));
            int what = number(0, 1);
            int told = model.after(mail, what);
            due("after(" + mail + ", " + what + ")", post.after(mail, what), told);
            reached[10] += what == 0 && told > model.hour ? 1 : 0;
        }

        void ask() {
            int mail = aMail();
            switch (below(8)) {
                case 0: {
                    int purpose = number(0, 2);
                    due("holds(" + purpose + ", " + mail + ")", post.holds(purpose, mail), model.holds(purpose, mail));
                    break;
                }
                case 1: {
                    int what = number(0, 7);
                    due("mailOf(" + mail + ", " + what + ")", post.mailOf(mail, what), model.mailOf(mail, what));
                    break;
                }
                case 2: due("goal(" + mail + ")", post.goal(mail), model.goal(mail)); break;
                case 3: due("next(" + mail + ")", post.next(mail), model.next(mail)); break;
                case 4: {
                    int i = once(3) ? number(0, 40) : number(0, 5);
                    due("trace(" + mail + ", " + i + ")", post.trace(mail, i), model.trace(mail, i));
                    break;
                }
                case 5: due("fro(" + mail + ")", post.fro(mail), model.fro(mail)); break;
                case 6: {
                    int office = anOffice();
                    due("waiting(" + office + ")", post.waiting(office), model.waiting(office));
                    break;
                }
                default: {
                    int what = number(0, 18);
                    due("count(" + what + ")", post.count(what), model.count(what));
                }
            }
        }

        /** The last calls of a run ask for what has become of everything. */
        void askAtTheEnd() {
            for (int what = -1; what <= 19 && !off; what++) {
                due("count(" + what + ")", post.count(what), model.count(what));
            }
            while (calls.size() < CALLS && !off) {
                ask();
            }
        }

        void tallyLimits() {
            boolean[] full = {model.offices.size() == 12, model.ways.size() == 24, model.shuts == 40, model.moves.size() == 60,
                model.men.size() == 40, model.states.size() == 80, model.mails.size() == 60, model.orders.size() == 30,
                model.sacks.size() == 7, model.hour == 2000};
            for (int i = 0; i < full.length; i++) {
                reached[12 + i] += full[i] ? 1 : 0;
            }
        }

        void tally(int mail) {
            int where = model.mailOf(mail, 1);
            if (where >= 2) {
                reached[where - 2]++;
            }
            reached[3] += model.mailOf(mail, 7);
            int word = model.mailOf(mail, 5);
            if (word > 0) {
                reached[3 + word]++;
            }
            reached[8] += model.fro(mail) >= 0 ? 1 : 0;
            reached[9] += model.mailOf(mail, 6) > 40 ? 1 : 0;
            reached[11] += model.mailOf(mail, 1) == 0 && model.holds(0, mail) + model.holds(1, mail) + model.holds(2, mail) > 0 ? 1 : 0;
        }
    }

    /** TEXTS that are good, and others. */
    private static final class Texts {
        final Random random;

        Texts(Random random) {
            this.random = random;
        }

        String good() {
            String text = ors(random.nextInt(6));
            return text.length() <= 60 ? text : test(0);
        }

        String any() {
            String text = random.nextInt(3) == 0 ? ors(7) : good();
            StringBuilder changed = new StringBuilder(text.substring(0, Math.min(60, text.length())));
            String signs = "kwahsuobc0123456789<=>&|!()z \0\u00e9";
            for (int i = random.nextInt(3); i > 0 && changed.length() > 0; i--) {
                int at = random.nextInt(changed.length());
                char sign = signs.charAt(random.nextInt(signs.length()));
                switch (random.nextInt(3)) {
                    case 0: changed.setCharAt(at, sign); break;
                    case 1: changed.deleteCharAt(at); break;
                    default: if (changed.length() < 60) { changed.insert(at, sign); }
                }
            }
            return changed.toString();
        }

        private String ors(int deep) {
            String text = ands(deep);
            while (random.nextInt(4) == 0) {
                text = text + "|" + ands(deep);
            }
            return text;
        }

        private String ands(int deep) {
            String text = test(deep);
            while (random.nextInt(4) == 0) {
                text = text + "&" + test(deep);
            }
            return text;
        }

        private String test(int deep) {
            int kind = deep > 0 ? random.nextInt(5) : 4;
            if (kind == 0) {
                return "!" + test(deep - 1);
            }
            if (kind == 1) {
                return "(" + ors(deep - 1) + ")";
            }
            return unit() + "<=>".charAt(random.nextInt(3)) + unit();
        }

        private String unit() {
            if (random.nextInt(2) == 0) {
                return "" + "kwahsuobc".charAt(random.nextInt(9));
            }
            return random.nextInt(6) == 0 ? "" + random.nextInt(10000) : random.nextInt(8) == 0 ? "0" + random.nextInt(10) : "" + random.nextInt(6);
        }
    }

    private static final class Office { int hands; boolean wired; }
    private record Way(int a, int b, int length, int first, int every, List<int[]> shut) { }
    private record Move(int unit, int office, int from, int told) { }
    private record Man(int unit, int name) { }
    private record State(int man, int state, int office, int told) { }
    private record Order(int purpose, String text, int told) { }
    private record Sack(int number, int time, int train, int letters) { }

    private static final class Mail implements Cloneable {
        int number, kind, from, man, weight, posted, where, office, hour, turned, word, spoilt;
        List<Integer> cameTo = new ArrayList<>();

        Mail copy() {
            Mail m = new Mail();
            m.number = number; m.kind = kind; m.from = from; m.man = man; m.weight = weight; m.posted = posted;
            m.where = where; m.office = office; m.hour = hour; m.turned = turned; m.word = word; m.spoilt = spoilt;
            m.cameTo = new ArrayList<>(cameTo);
            return m;
        }
    }

    /** The slow second reading of the document. */
    private static final class Model {
        int hour = 0;
        int keep = 72;
        int shuts = 0;
        List<Office> offices = new ArrayList<>();
        List<Way> ways = new ArrayList<>();
        List<Move> moves = new ArrayList<>();
        List<Man> men = new ArrayList<>();
        List<State> states = new ArrayList<>();
        List<Mail> mails = new ArrayList<>();
        List<Order> orders = new ArrayList<>();
        List<Sack> sacks = new ArrayList<>();
        List<Integer> row = new ArrayList<>();
        StringBuilder tape = new StringBuilder();
        int[] refused = new int[10];

        int no(int number) {
            refused[-number]++;
            return number;
        }

        boolean office(int o) { return 0 <= o && o < offices.size(); }
        boolean unit(int u) { return 0 <= u && u <= 15; }
        boolean manKnown(int m) { return 0 <= m && m < men.size(); }
        boolean mailKnown(int m) { return 0 <= m && m < mails.size(); }

        int office(int hands, boolean wired) {
            if (hands < 0) return no(-4);
            if (hands > 99 || offices.size() == 12) return no(-6);
            Office o = new Office();
            o.hands = hands;
            o.wired = wired;
            offices.add(o);
            return offices.size() - 1;
        }

        int staff(int office, int hands, boolean wired) {
            if (!office(office)) return no(-1);
            if (hands < 0) return no(-4);
            if (hands > 99) return no(-6);
            int were = offices.get(office).hands;
            offices.get(office).hands = hands;
            offices.get(office).wired = wired;
            return were;
        }

        int way(int a, int b, int length, int first, int every) {
            if (!office(a) || !office(b) || a == b) return no(-1);
            if (length < 1 || first < 0 || every < 1) return no(-4);
            if (length > 48 || first > 2000 || every > 48 || ways.size() == 24) return no(-6);
            ways.add(new Way(a, b, length, first, every, new ArrayList<>()));
            return ways.size() - 1;
        }

        int shut(int way, int from, int to) {
            if (way < 0 || way >= ways.size()) return no(-1);
            if (from < hour || to < from) return no(-4);
            if (from > 2000 || to > 2000 || shuts == 40) return no(-6);
            ways.get(way).shut().add(new int[] {from, to});
            return ++shuts;
        }

        /** Bellman and Ford: as many rounds as there are OFFICES. */
        Integer least(int a, int b) {
            Integer[] far = new Integer[offices.size()];
            far[a] = 0;
            for (int round = 0; round < offices.size(); round++) {
                for (Way w : ways) {
                    if (far[w.a()] != null && (far[w.b()] == null || far[w.b()] > far[w.a()] + w.length())) far[w.b()] = far[w.a()] + w.length();
                    if (far[w.b()] != null && (far[w.a()] == null || far[w.a()] > far[w.b()] + w.length())) far[w.a()] = far[w.b()] + w.length();
                }
            }
            return far[b];
        }

        int far(int a, int b) {
            if (!office(a) || !office(b)) return no(-1);
            Integer far = least(a, b);
            return far == null ? -9 : far;
        }

        Integer lateOf(int office) {
            return offices.get(office).wired ? Integer.valueOf(0) : least(0, office);
        }

        int late(int office) {
            if (!office(office)) return no(-1);
            Integer late = lateOf(office);
            return late == null ? -9 : late;
        }

        /** office -1: everything is known on the HOUR on which it is told. */
        boolean heard(int told, int office, int by) {
            Integer late = office == -1 ? Integer.valueOf(0) : lateOf(office);
            return late != null && told + late <= by;
        }

        int hours(int n) {
            if (n < 1) return no(-4);
            if ((long) hour + n > 2000) return no(-6);
            for (int i = 0; i < n; i++) {
                pass(hour++);
            }
            return hour;
        }

        int move(int unit, int office, int from) {
            if (!unit(unit) || !office(office)) return no(-1);
            if (from < hour) return no(-4);
            if (from > 2000 || moves.size() == 60) return no(-6);
            moves.add(new Move(unit, office, from, hour));
            return moves.size();
        }

        int place(int unit, int by, int office) {
            Move best = null;
            for (Move m : moves) {
                if (m.unit() == unit && m.from() <= by && heard(m.told(), office, by) && (best == null || best.from() <= m.from())) best = m;
            }
            return best == null ? -9 : best.office();
        }

        int is(int unit, int at) {
            if (!unit(unit)) return no(-1);
            if (at < 0) return no(-4);
            if (at > 2000) return no(-6);
            return place(unit, at, -1);
        }

        int list(int office, int unit, int at) {
            if (!office(office) || !unit(unit)) return no(-1);
            if (at < 0) return no(-4);
            if (at > 2000) return no(-6);
            return place(unit, at, office);
        }

        int man(int unit, int name) {
            if (!unit(unit)) return no(-1);
            if (name < 0) return no(-4);
            if (name > 9999 || men.size() == 40) return no(-6);
            men.add(new Man(unit, name));
            return men.size() - 1;
        }

        int state(int man, int state, int office) {
            if (!manKnown(man) || state == 1 && !office(office)) return no(-1);
            if (state < 0 || state > 3) return no(-2);
            if (states.size() == 80) return no(-6);
            states.add(new State(man, state, office, hour));
            return states.size();
        }

        State stateHeard(int man, int by, int office) {
            State last = new State(man, 0, -9, 0);
            for (State s : states) {
                if (s.man() == man && heard(s.told(), office, by)) last = s;
            }
            return last;
        }

        int stateOf(int man, int at, int office) {
            if (!manKnown(man) || office != -1 && !office(office)) return no(-1);
            if (at < 0) return no(-4);
            if (at > 2000) return no(-6);
            return stateHeard(man, at, office).state();
        }

        int manPlace(int man, int at) {
            State s = stateHeard(man, at, -1);
            return switch (s.state()) {
                case 0 -> place(men.get(man).unit(), at, -1);
                case 1 -> s.office();
                default -> -9;
            };
        }

        int manAt(int man) {
            return manKnown(man) ? manPlace(man, hour) : no(-1);
        }

        int mail(int kind, int office, int man, int weight) {
            if (kind < 0 || kind > 2) return no(-2);
            if (!office(office) || !manKnown(man)) return no(-1);
            if (weight < new int[] {0, 1, 0}[kind]) return no(-4);
            if (weight > new int[] {99, 999, 9999}[kind] || mails.size() == 60) return no(-6);
            Mail m = new Mail();
            m.number = mails.size();
            m.kind = kind;
            m.from = office;
            m.office = office;
            m.man = man;
            m.weight = weight;
            m.posted = hour;
            m.hour = hour;
            m.cameTo.add(office);
            mails.add(m);
            return m.number;
        }

        int feed(int n, long bytes) {
            if (n < 1) return no(-4);
            if (n > 8 || tape.length() + n > 60) return no(-6);
            for (int i = 0; i < n; i++) {
                tape.append((char) (bytes >>> 8 * i & 0xff));
            }
            return tape.length();
        }

        int order(int purpose) {
            if (purpose < 0 || purpose > 2) return no(-2);
            if (orders.size() == 30) return no(-6);
            String text = tape.toString();
            tape.setLength(0);
            int fault = fault(text);
            if (fault >= 0) return -20 - fault;
            orders.add(new Order(purpose, text, hour));
            return orders.size();
        }

        /** An automaton with one stack of what is open: '!' is shut by the end of its TEST. */
        static int fault(String text) {
            StringBuilder open = new StringBuilder();
            int state = 0; // 0 a TEST must begin, 1 its sign must come, 2 its second UNIT must begin, 3 a TEST is behind
            int digits = 0; // how many of the number just read, 0 if none may follow
            for (int i = 0; i < text.length(); i++) {
                char c = text.charAt(i);
                boolean digit = "0123456789".indexOf(c) >= 0;
                boolean letter = "kwahsuobc".indexOf(c) >= 0;
                if (digit && digits > 0 && digits < 4) {
                    digits++;
                    continue;
                }
                digits = 0;
                if ((state == 0 || state == 2) && (digit || letter)) {
                    digits = digit ? 1 : 0;
                    state++;
                    if (state == 3) shutNots(open);
                } else if (state == 0 && (c == '!' || c == '(') && open.length() < 5) {
                    open.append(c);
                } else if (state == 1 && "<=>".indexOf(c) >= 0) {
                    state = 2;
                } else if (state == 3 && (c == '&' || c == '|')) {
                    state = 0;
                } else if (state == 3 && c == ')' && open.length() > 0) {
                    open.setLength(open.length() - 1);
                    shutNots(open);
                } else {
                    return i;
                }
            }
            return state == 3 && open.length() == 0 ? -1 : text.length();
        }

        static void shutNots(StringBuilder open) {
            while (open.length() > 0 && open.charAt(open.length() - 1) == '!') open.setLength(open.length() - 1);
        }

        /** By splitting at the outermost "|", then "&". */
        boolean truth(String text, Mail m, int at) {
            for (char sign : new char[] {'|', '&'}) {
                int deep = 0;
                for (int i = 0; i < text.length(); i++) {
                    char c = text.charAt(i);
                    deep += c == '(' ? 1 : c == ')' ? -1 : 0;
                    if (c == sign && deep == 0) {
                        boolean left = truth(text.substring(0, i), m, at);
                        boolean right = truth(text.substring(i + 1), m, at);
                        return sign == '|' ? left | right : left & right;
                    }
                }
            }
            if (text.startsWith("!")) return !truth(text.substring(1), m, at);
            if (text.startsWith("(")) return truth(text.substring(1, text.length() - 1), m, at);
            String[] units = text.split("[<=>]");
            int order = Integer.compare(value(units[0], m, at), value(units[1], m, at));
            return text.contains("<") && order < 0 || text.contains("=") && order == 0 || text.contains(">") && order > 0;
        }

        int value(String unit, Mail m, int at) {
            return switch (unit) {
                case "k" -> m.kind;
                case "w" -> m.weight;
                case "a" -> at - m.posted;
                case "h" -> at - m.hour;
                case "s" -> stateHeard(m.man, at, m.office).state();
                case "u" -> men.get(m.man).unit();
                case "o" -> m.office;
                case "b" -> m.turned;
                case "c" -> m.cameTo.size();
                default -> Integer.parseInt(unit);
            };
        }

        boolean purpose(int purpose, Mail m, int at) {
            Order last = null;
            for (Order o : orders) {
                if (o.purpose() == purpose && heard(o.told(), m.office, at)) last = o;
            }
            return last != null && truth(last.text(), m, at);
        }

        int holds(int purpose, int mail) {
            if (purpose < 0 || purpose > 2) return no(-2);
            if (!mailKnown(mail)) return no(-1);
            if (mails.get(mail).where != 0) return no(-3);
            return purpose(purpose, mails.get(mail), hour) ? 1 : 0;
        }

        int keep(int n) {
            if (n < 1) return no(-4);
            if (n > 999) return no(-6);
            int was = keep;
            keep = n;
            return was;
        }

        void pass(int h) {
            for (Mail m : mails) {
                if (m.where == 1 && m.hour == h) {
                    m.where = 0;
                    m.cameTo.add(m.office);
                }
            }
            for (int o = 0; o < offices.size(); o++) {
                List<Mail> there = new ArrayList<>();
                for (Mail m : mails) {
                    if (m.where == 0 && m.office == o) there.add(m);
                }
                there.sort(Comparator.comparingInt((Mail m) -> m.hour).thenComparingInt(m -> m.number));
                for (int i = 0; i < Math.min(offices.get(o).hands, there.size()); i++) {
                    see(there.get(i), h);
                }
            }
        }

        void see(Mail m, int h) {
            if (purpose(0, m, h)) {
                end(m, 4, h);
                return;
            }
            if (purpose(1, m, h)) return;
            if (m.turned == 0 && purpose(2, m, h)) {
                m.turned = 1;
                m.word = 4;
            }
            int heardState = stateHeard(m.man, h, m.office).state();
            if (m.turned == 0 && heardState >= 2) {
                m.turned = 1;
                m.word = heardState;
            }
            int goal = goalOf(m, h);
            if (goal == m.office && m.turned == 1) {
                end(m, 3, h);
                return;
            }
            if (goal == m.office && manPlace(m.man, h) == goal) {
                if (m.kind == 1 && h - m.posted > m.weight) m.spoilt = 1;
                end(m, 2, h);
                return;
            }
            if (goal == -9 || goal == m.office) {
                if (m.hour + keep <= h) {
                    m.turned = 1;
                    m.word = 1;
                }
                return;
            }
            int by = wayOf(m, goal);
            if (by >= 0 && leaves(ways.get(by), h)) {
                Way w = ways.get(by);
                m.office = w.a() + w.b() - m.office;
                m.hour = h + w.length();
                m.where = 1;
            }
        }

        static void end(Mail m, int how, int h) {
            m.where = how;
            m.hour = h;
        }

        static boolean leaves(Way w, int h) {
            for (int[] s : w.shut()) {
                if (s[0] <= h && h <= s[1]) return false;
            }
            for (int t = w.first(); t <= h; t += w.every()) {
                if (t == h) return true;
            }
            return false;
        }

        int goalOf(Mail m, int h) {
            if (m.turned == 1) return m.from;
            State s = stateHeard(m.man, h, m.office);
            return s.state() == 1 ? s.office() : place(men.get(m.man).unit(), h, m.office);
        }

        int wayOf(Mail m, int goal) {
            if (goal == -9 || goal == m.office || least(m.office, goal) == null) return -9;
            for (int i = 0; i < ways.size(); i++) {
                Way w = ways.get(i);
                if (w.a() != m.office && w.b() != m.office) continue;
                int end = w.a() + w.b() - m.office;
                Integer rest = least(end, goal);
                if (rest != null && rest + w.length() == least(m.office, goal)) return i;
            }
            return -9;
        }

        int mailOf(int mail, int what) {
            if (!mailKnown(mail)) return no(-1);
            Mail m = mails.get(mail);
            int[] told = {m.kind, m.where, m.office, m.hour, m.turned, m.word, m.cameTo.size(), m.spoilt};
            return what < 0 || what > 7 ? no(-2) : told[what];
        }

        int goal(int mail) {
            if (!mailKnown(mail)) return no(-1);
            return mails.get(mail).where != 0 ? no(-3) : goalOf(mails.get(mail), hour);
        }

        int next(int mail) {
            if (!mailKnown(mail)) return no(-1);
            Mail m = mails.get(mail);
            return m.where != 0 ? no(-3) : wayOf(m, goalOf(m, hour));
        }

        int trace(int mail, int i) {
            if (!mailKnown(mail)) return no(-1);
            List<Integer> all = mails.get(mail).cameTo;
            return i >= 0 && i < 40 && i < all.size() ? all.get(i) : -9;
        }

        int fro(int mail) {
            if (!mailKnown(mail)) return no(-1);
            List<Integer> all = mails.get(mail).cameTo;
            List<Integer> kept = all.subList(0, Math.min(40, all.size()));
            for (int i = 0; i + 4 <= kept.size(); i++) {
                if (kept.subList(i, i + 2).equals(kept.subList(i + 2, i + 4))) return i;
            }
            return -9;
        }

        int after(int mail, int what) {
            if (!mailKnown(mail)) return no(-1);
            if (what != 0 && what != 1) return no(-2);
            List<Mail> true_ = mails;
            mails = new ArrayList<>();
            for (Mail m : true_) {
                mails.add(m.copy());
            }
            Mail m = mails.get(mail);
            for (int i = 0; i < 300 && m.where < 2; i++) {
                pass(hour + i);
            }
            mails = true_;
            return m.where < 2 ? -9 : what == 0 ? m.hour : m.where;
        }

        int paid(int man) {
            if (!manKnown(man)) return no(-1);
            return mails.stream().filter(m -> m.man == man && m.kind == 2 && m.where == 2).mapToInt(m -> m.weight).sum();
        }

        List<Integer> fits(int unit, int digits) {
            String pattern = "";
            for (int base = 1331; base > 0; base /= 11) {
                int d = digits / base % 11;
                pattern += d == 10 ? "." : "" + d;
            }
            List<Integer> fit = new ArrayList<>();
            for (int i = 0; i < men.size(); i++) {
                if ((unit == -1 || men.get(i).unit() == unit) && String.format("%04d", men.get(i).name()).matches(pattern)) fit.add(i);
            }
            return fit;
        }

        int cover(int unit, int digits) {
            if (unit < -1 || unit > 15) return no(-1);
            if (digits < 0) return no(-4);
            if (digits > 14640) return no(-6);
            return fits(unit, digits).size();
        }

        int sure(int unit, int digits) {
            int many = cover(unit, digits);
            return many < 0 ? many : many == 1 ? fits(unit, digits).get(0) : -9;
        }

        int sack(int time, int train, int letters) {
            if (time < 1 || train < 1 || letters < 0) return no(-4);
            if (time > 99 || train > 999 || letters > 9999 || sacks.size() == 7) return no(-6);
            sacks.add(new Sack(sacks.size(), time, train, letters));
            return sacks.size() - 1;
        }

        /** Set, LETTERS, HOURS of the BEST. */
        int[] bestSet() {
            List<int[]> made = new ArrayList<>();
            for (int set = 0; set < 1 << sacks.size(); set++) {
                List<Sack> in = new ArrayList<>();
                for (Sack s : sacks) {
                    if ((set & 1 << s.number()) != 0) in.add(s);
                }
                in.sort(Comparator.comparingInt(Sack::train).thenComparingInt(Sack::number));
                int done = 0;
                boolean can = true;
                for (Sack s : in) {
                    done += s.time();
                    can &= done <= s.train();
                }
                if (can) made.add(new int[] {set, in.stream().mapToInt(Sack::letters).sum(), done});
            }
            made.sort(Comparator.comparingInt((int[] x) -> -x[1]).thenComparingInt(x -> x[2]).thenComparingInt(x -> x[0]));
            return made.get(0);
        }

        int best(int what) {
            return what < 0 || what > 2 ? no(-2) : bestSet()[what];
        }

        int put(int v) {
            if (v < -128) return no(-4);
            if (v > 127 || row.size() == 12) return no(-6);
            row.add(v);
            return row.size();
        }

        int judge(int what) {
            if (what < 0 || what > 1) return no(-2);
            int place = -9;
            int done = 0;
            int letters = 0;
            for (int i = 0; i < row.size() && place == -9; i++) {
                int v = row.get(i);
                boolean fine = v >= 0 && v < sacks.size() && row.indexOf(v) == i && done + sacks.get(v).time() <= sacks.get(v).train();
                if (fine) {
                    done += sacks.get(v).time();
                    letters += sacks.get(v).letters();
                } else {
                    place = i;
                }
            }
            if (what == 0) return place;
            row.clear();
            return bestSet()[1] - letters;
        }

        int waiting(int office) {
            if (!office(office)) return no(-1);
            return (int) mails.stream().filter(m -> m.where == 0 && m.office == office).count();
        }

        int ended(int how) {
            return (int) mails.stream().filter(m -> m.where == how).count();
        }

        int count(int what) {
            int[] told = {hour, offices.size(), ways.size(), moves.size(), men.size(), mails.size(), ended(2), ended(3), ended(4),
                (int) mails.stream().filter(m -> m.spoilt == 1).count(), tape.length(), refused[1], refused[2], refused[3],
                refused[4], refused[5], refused[6], row.size(), orders.size()};
            return what < 0 || what >= told.length ? -9 : told[what];
        }
    }
}
