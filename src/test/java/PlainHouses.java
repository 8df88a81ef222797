import java.util.ArrayList;
import java.util.Arrays;
import java.util.HashMap;
import java.util.HashSet;
import java.util.List;
import java.util.Map;
import java.util.NoSuchElementException;
import java.util.Set;
import java.util.TreeMap;

/** The document once more, in its slowest and plainest form: everything is reckoned anew for each call. */
final class PlainHouses {
    static final Set<String> KEYWORDS = new HashSet<>(Arrays.asList("house", "event", "hours", "miles",
            "share", "of", "own", "and", "when", "layer", "over", "again", "at", "to", "or", "cause", "day",
            "losses", "direct", "hit", "not"));
    static final Set<String> VALUE_WORDS = new HashSet<>(Arrays.asList("cause", "day", "losses", "direct", "hit",
            "not"));

    static final class Fault extends RuntimeException {
        private static final long serialVersionUID = 1L;

        final int code;

        Fault(int code) {
            super(null, null, false, false);
            this.code = code;
        }
    }

    static final class Token {
        char kind;
        String text;
        int place;
    }

    interface Condition {
        long worth(Map<String, Integer> facts);
    }

    static final class Deal {
        int house;
        boolean own;
        boolean layer;
        int limit;
        int over;
        int again;
        int premium;
        Map<Integer, Integer> parts = new TreeMap<>();
        Condition when = facts -> 1;
        int commutedOn = -1;
        int commutedFor;
    }

    static final class Deed {
        List<String> houses = new ArrayList<>();
        Set<String> names = new HashSet<>();
        Map<Integer, int[]> causes = new HashMap<>();
        List<Deal> deals = new ArrayList<>();
    }

    static final class Word {
        int day;
        int amount;
    }

    static final class Loss {
        int number;
        int house;
        int hour;
        int place;
        int cause;
        int storm;
        boolean split;
        List<Word> words = new ArrayList<>();

        int amountOn(int day) {
            int amount = -1;
            for (Word w : words) {
                if (w.day <= day) {
                    amount = w.amount;
                }
            }
            return amount;
        }
    }

    static final class Event {
        List<Loss> members = new ArrayList<>();
        long[] direct;
        long[] gross;
        long[] all;
        long[][] treaty;
        int rounds;
        boolean endless;
    }

    static final class State {
        List<Event> events = new ArrayList<>();
        long[][] owed;
        long[] direct;
        long[] left;

        long bears(int house) {
            long sum = direct[house];
            for (int i = 0; i < direct.length; i++) {
                sum += owed[house][i] - owed[i][house];
            }
            return sum;
        }
    }

    StringBuilder tape = new StringBuilder();
    Deed deed = new Deed();
    List<Loss> losses = new ArrayList<>();
    Set<Integer> leftOut = new HashSet<>();
    int[] purses = new int[12];
    int words = 0;
    int now = 0;
    int viewed = -1;

    int view() {
        return viewed < 0 ? now : viewed;
    }

    int days(int n) {
        if (n < 0 || n > 1000 || now + n > 9999) {
            return -1;
        }
        return now += n;
    }

    boolean view(int day) {
        if (day < 0 || day > now) {
            return false;
        }
        viewed = day == now ? -1 : day;
        return true;
    }

    int feed(long a, long b, long c) {
        for (long n : new long[] {a, b, c}) {
            for (int i = 7; i >= 0; i--) {
                int sign = (int) (n >>> (8 * i)) & 0xff;
                if ((sign == 10 || sign >= 32 && sign < 127) && tape.length() < 1500) {
                    tape.append((char) sign);
                }
            }
        }
        return tape.length();
    }

    // ---- the wording

    private List<Token> tokens;
    private int at;
    private Deed read;

    private List<Token> cut(String text) {
        List<Token> cut = new ArrayList<>();
        int i = 0;
        while (i < text.length()) {
            char c = text.charAt(i);
            int j = i + 1;
            Token t = new Token();
            t.place = i;
            if (c == ' ' || c == '\n') {
                i++;
                continue;
            } else if (c >= 'a' && c <= 'z') {
                while (j < text.length() && text.charAt(j) >= 'a' && text.charAt(j) <= 'z') {
                    j++;
                }
                t.kind = j - i > 8 ? '?' : 'w';
            } else if (c >= '0' && c <= '9') {
                while (j < text.length() && text.charAt(j) >= '0' && text.charAt(j) <= '9') {
                    j++;
                }
                t.kind = j - i > 6 ? '?' : 'n';
            } else {
                t.kind = "()<=+-:;".indexOf(c) >= 0 ? 's' : '?';
            }
            t.text = text.substring(i, j);
            cut.add(t);
            i = j;
        }
        Token end = new Token();
        end.kind = 'e';
        end.text = "";
        end.place = text.length();
        cut.add(end);
        return cut;
    }

    private Token here() {
        return tokens.get(at);
    }

    private Fault fault(int kind) {
        return new Fault(kind + 16 * here().place);
    }

    private boolean is(String text) {
        return here().kind != '?' && here().kind != 'n' && here().text.equals(text) && here().kind != 'e';
    }

    private void need(String text) {
        if (!is(text)) {
            throw fault(1);
        }
        at++;
    }

    private boolean may(String text) {
        if (is(text)) {
            at++;
            return true;
        }
        return false;
    }

    private int number(int least, int most) {
        if (here().kind != 'n') {
            throw fault(1);
        }
        int n = Integer.parseInt(here().text);
        if (n < least || n > most) {
            throw fault(4);
        }
        at++;
        return n;
    }

    private String newName() {
        if (here().kind != 'w' || KEYWORDS.contains(here().text)) {
            throw fault(1);
        }
        String name = here().text;
        if (!read.names.add(name)) {
            throw fault(3);
        }
        at++;
        return name;
    }

    private int houseName() {
        if (here().kind != 'w' || KEYWORDS.contains(here().text)) {
            throw fault(1);
        }
        int house = read.houses.indexOf(here().text);
        if (house < 0) {
            throw fault(2);
        }
        return house;
    }

    int wording() {
        tokens = cut(tape.toString());
        tape.setLength(0);
        at = 0;
        read = new Deed();
        try {
            while (here().kind != 'e') {
                statement();
            }
        } catch (Fault f) {
            return f.code;
        }
        deed = read;
        return 0;
    }

    private void statement() {
        if (is("house")) {
            if (read.houses.size() == 12) {
                throw fault(5);
            }
            at++;
            read.houses.add(newName());
        } else if (is("event")) {
            at++;
            int cause = number(0, 7);
            if (read.causes.containsKey(cause)) {
                at--;
                throw fault(6);
            }
            need("hours");
            int hours = number(1, 999);
            need("miles");
            read.causes.put(cause, new int[] {hours, number(0, 999)});
        } else if (is("share") || is("layer")) {
            deal(is("layer"));
        } else {
            throw fault(1);
        }
        need(";");
    }

    private void deal(boolean layer) {
        if (read.deals.size() == 24) {
            throw fault(5);
        }
        Deal deal = new Deal();
        deal.layer = layer;
        at++;
        newName();
        need("of");
        deal.house = houseName();
        at++;
        deal.own = may("own");
        need(":");
        if (layer) {
            deal.limit = number(1, 999999);
            need("over");
            deal.over = number(0, 999999);
        }
        int together = 0;
        do {
            int share = number(1, 1000);
            together += share;
            if (together > 1000) {
                at--;
                throw fault(4);
            }
            need("to");
            int to = houseName();
            if (to == deal.house || deal.parts.containsKey(to)) {
                throw fault(6);
            }
            at++;
            deal.parts.put(to, share);
        } while (may("and"));
        if (layer && may("again")) {
            deal.again = number(0, 9);
            need("at");
            deal.premium = number(0, 999999);
        }
        if (may("when")) {
            deal.when = either(0);
        }
        read.deals.add(deal);
    }

    private Condition either(int depth) {
        Condition left = test(depth);
        while (is("and") || is("or")) {
            boolean and = is("and");
            at++;
            Condition a = left;
            Condition b = test(depth);
            left = and ? f -> a.worth(f) != 0 & b.worth(f) != 0 ? 1 : 0
                    : f -> a.worth(f) != 0 | b.worth(f) != 0 ? 1 : 0;
        }
        return left;
    }

    private Condition test(int depth) {
        Condition a = sum(depth);
        if (may("<")) {
            Condition b = sum(depth);
            return f -> a.worth(f) < b.worth(f) ? 1 : 0;
        }
        if (may("=")) {
            Condition b = sum(depth);
            return f -> a.worth(f) == b.worth(f) ? 1 : 0;
        }
        return a;
    }

    private Condition sum(int depth) {
        Condition left = value(depth);
        while (is("+") || is("-")) {
            int sign = is("+") ? 1 : -1;
            at++;
            Condition a = left;
            Condition b = value(depth);
            left = f -> a.worth(f) + sign * b.worth(f);
        }
        return left;
    }

    private Condition value(int depth) {
        boolean word = here().kind == 'w' && VALUE_WORDS.contains(here().text);
        if (here().kind != 'n' && !word && !is("(")) {
            throw fault(1);
        }
        if (depth == 4) {
            throw fault(5);
        }
        if (here().kind == 'n') {
            int n = number(0, 999999);
            return f -> n;
        }
        if (may("not")) {
            Condition a = value(depth + 1);
            return f -> a.worth(f) == 0 ? 1 : 0;
        }
        if (may("(")) {
            Condition e = either(depth + 1);
            need(")");
            return e;
        }
        String fact = here().text;
        at++;
        return f -> f.get(fact);
    }

    // ---- losses

    int loss(int house, int hour, int place, int cause, int storm, int amount) {
        if (house < 0 || house > 11 || hour < 0 || hour > 239999 || hour / 24 > now || place < 0 || place > 999
                || cause < 0 || cause > 7 || storm < 0 || storm > 5 || amount < 0 || amount > 100000
                || losses.size() == 60 || words == 300) {
            return -1;
        }
        Loss loss = new Loss();
        loss.number = losses.size();
        loss.house = house;
        loss.hour = hour;
        loss.place = place;
        loss.cause = cause;
        loss.storm = storm;
        losses.add(loss);
        word(loss.number, amount);
        return loss.number;
    }

    boolean word(int loss, int amount) {
        if (loss < 0 || loss >= losses.size() || amount < 0 || amount > 100000 || words == 300) {
            return false;
        }
        Word w = new Word();
        w.day = now;
        w.amount = amount;
        losses.get(loss).words.add(w);
        words++;
        return true;
    }

    boolean split(int loss, boolean yes) {
        if (loss < 0 || loss >= losses.size()) {
            return false;
        }
        losses.get(loss).split = yes;
        return true;
    }

    boolean leave(int storm, boolean yes) {
        if (storm < 0 || storm > 5) {
            return false;
        }
        if (yes) {
            leftOut.add(storm);
        } else {
            leftOut.remove(storm);
        }
        return true;
    }

    private List<Loss> counting(Set<Integer> out) {
        List<Loss> counting = new ArrayList<>();
        for (Loss l : losses) {
            if (l.amountOn(view()) > 0 && l.house < deed.houses.size() && !out.contains(l.storm)) {
                counting.add(l);
            }
        }
        return counting;
    }

    private List<Event> gather(Set<Integer> out, int moreSplit) {
        List<Loss> sorted = counting(out);
        sorted.sort((a, b) -> a.hour != b.hour ? a.hour - b.hour : a.number - b.number);
        List<Event> events = new ArrayList<>();
        for (Loss l : sorted) {
            int[] bounds = deed.causes.getOrDefault(l.cause, new int[] {168, 999});
            Event home = null;
            for (Event e : events) {
                Loss first = e.members.get(0);
                if (first.cause == l.cause && l.hour - first.hour < bounds[0]
                        && Math.abs(l.place - first.place) <= bounds[1]) {
                    home = e;
                }
            }
            if (home == null || l.split || l.number == moreSplit) {
                home = new Event();
                events.add(home);
            }
            home.members.add(l);
        }
        return events;
    }

    State state(Set<Integer> out, int moreSplit) {
        int houses = deed.houses.size();
        int deals = deed.deals.size();
        State state = new State();
        state.events = gather(out, moreSplit);
        state.owed = new long[houses][houses];
        state.direct = new long[houses];
        state.left = new long[deals];
        long[] toReinstate = new long[deals];
        for (int t = 0; t < deals; t++) {
            Deal d = deed.deals.get(t);
            state.left[t] = (long) d.limit * (1 + d.again);
            toReinstate[t] = (long) d.limit * d.again;
        }
        for (Event e : state.events) {
            solve(e, state, houses);
            for (int h = 0; h < houses; h++) {
                state.direct[h] += e.direct[h];
            }
            for (int t = 0; t < deals; t++) {
                Deal d = deed.deals.get(t);
                long[] row = e.treaty[t];
                for (int to : d.parts.keySet()) {
                    state.owed[to][d.house] += (d.layer ? row[1] : row[0]) * d.parts.get(to) / 1000;
                }
                if (d.layer) {
                    state.left[t] -= row[1];
                    row[3] = Math.min(row[1], toReinstate[t]);
                    toReinstate[t] -= row[3];
                    row[4] = d.premium * row[3] / d.limit;
                    for (int to : d.parts.keySet()) {
                        state.owed[d.house][to] += row[4] * d.parts.get(to) / 1000;
                    }
                }
            }
        }
        for (Deal d : deed.deals) {
            if (d.commutedOn >= 0 && d.commutedOn <= view()) {
                for (int to : d.parts.keySet()) {
                    state.owed[to][d.house] += (long) d.commutedFor * d.parts.get(to) / 1000;
                }
            }
        }
        return state;
    }

    State state() {
        return state(leftOut, -1);
    }

    private void solve(Event e, State state, int houses) {
        e.direct = new long[houses];
        for (Loss l : e.members) {
            e.direct[l.house] += l.amountOn(view());
        }
        boolean[] on = new boolean[deed.deals.size()];
        int hit = 0;
        for (long d : e.direct) {
            hit += d > 0 ? 1 : 0;
        }
        for (int t = 0; t < on.length; t++) {
            Deal d = deed.deals.get(t);
            Map<String, Integer> facts = new HashMap<>();
            facts.put("cause", e.members.get(0).cause);
            facts.put("day", e.members.get(0).hour / 24);
            facts.put("losses", e.members.size());
            facts.put("direct", (int) e.direct[d.house]);
            facts.put("hit", hit);
            on[t] = !(d.commutedOn >= 0 && d.commutedOn <= view()) && d.when.worth(facts) != 0;
        }
        long[] gross = e.direct.clone();
        for (e.rounds = 1; e.rounds <= 2000; e.rounds++) {
            long[] next = round(e, gross, state, on, houses);
            if (Arrays.equals(next, gross)) {
                e.gross = gross;
                return;
            }
            gross = next;
            if (Arrays.stream(gross).max().getAsLong() > 20000000) {
                break;
            }
        }
        e.rounds = Math.min(2000, e.rounds);
        e.endless = true;
        e.gross = e.direct.clone();
        e.all = e.direct.clone();
        e.treaty = new long[on.length][5];
    }

    private long[] round(Event e, long[] gross, State state, boolean[] on, int houses) {
        long[] next = e.direct.clone();
        e.all = gross.clone();
        e.treaty = new long[on.length][5];
        long[] own = e.direct.clone();
        for (int t = 0; t < on.length; t++) {
            Deal d = deed.deals.get(t);
            if (!on[t]) {
                continue;
            }
            int h = d.house;
            long base = d.own ? own[h] : e.all[h];
            long shared = base;
            if (d.layer) {
                shared = Math.max(0, base - d.over);
                shared = Math.min(shared, d.limit);
                shared = Math.min(shared, state.left[t]);
            }
            long paid = 0;
            for (int to : d.parts.keySet()) {
                long pays = shared * d.parts.get(to) / 1000;
                next[to] += pays;
                paid += pays;
            }
            e.treaty[t] = new long[] {base, d.layer ? shared : paid, paid, 0, 0};
            e.all[h] -= paid;
            if (d.own) {
                own[h] = Math.max(0, own[h] - paid);
            }
            own[h] = Math.min(own[h], e.all[h]);
        }
        return next;
    }

    // ---- what is asked

    int events() {
        return state().events.size();
    }

    int event(int event, int what) {
        List<Event> events = state().events;
        if (event < 0 || event >= events.size() || what < 0 || what > 4) {
            return -1;
        }
        Event e = events.get(event);
        return new int[] {e.members.get(0).number, e.members.size(), e.rounds, e.endless ? 1 : 0,
            (int) Arrays.stream(e.direct).sum()}[what];
    }

    int eventOf(int loss) {
        List<Event> events = state().events;
        for (int i = 0; i < events.size(); i++) {
            for (Loss l : events.get(i).members) {
                if (l.number == loss) {
                    return i;
                }
            }
        }
        return -1;
    }

    int gross(int event, int house, int what) {
        List<Event> events = state().events;
        if (event < 0 || event >= events.size() || house < 0 || house >= deed.houses.size() || what < 0
                || what > 2) {
            return -1;
        }
        Event e = events.get(event);
        return (int) (what == 0 ? e.direct : what == 1 ? e.gross : e.all)[house];
    }

    int treaty(int event, int treaty, int what) {
        List<Event> events = state().events;
        if (event < 0 || event >= events.size() || treaty < 0 || treaty >= deed.deals.size() || what < 0
                || what > 4) {
            return -1;
        }
        return (int) events.get(event).treaty[treaty][what];
    }

    int left(int treaty) {
        if (treaty < 0 || treaty >= deed.deals.size() || !deed.deals.get(treaty).layer) {
            return -1;
        }
        return (int) state().left[treaty];
    }

    boolean commute(int treaty, int sum) {
        if (treaty < 0 || treaty >= deed.deals.size() || sum < 0 || sum > 999999
                || deed.deals.get(treaty).commutedOn >= 0) {
            return false;
        }
        deed.deals.get(treaty).commutedOn = now;
        deed.deals.get(treaty).commutedFor = sum;
        return true;
    }

    private void needHouse(int house) {
        if (house < 0 || house >= deed.houses.size()) {
            throw new NoSuchElementException();
        }
    }

    int owed(int a, int b) {
        needHouse(a);
        needHouse(b);
        if (a == b) {
            throw new NoSuchElementException();
        }
        return (int) state().owed[a][b];
    }

    int bears(int house) {
        needHouse(house);
        return (int) state().bears(house);
    }

    int wants(int house) {
        if (house < 0 || house >= deed.houses.size()) {
            return -1;
        }
        long least = state().bears(house);
        int wanted = -1;
        for (Loss l : counting(leftOut)) {
            long bears = state(leftOut, l.number).bears(house);
            if (bears < least) {
                least = bears;
                wanted = l.number;
            }
        }
        return wanted;
    }

    int worst(int house, int k) {
        if (house < 0 || house >= deed.houses.size() || k < 1 || k > 6) {
            return -1;
        }
        int best = -1;
        long most = 0;
        for (int set = 0; set < 64; set++) {
            if (Integer.bitCount(set) > k) {
                continue;
            }
            Set<Integer> out = new HashSet<>(leftOut);
            for (int s = 0; s < 6; s++) {
                if ((set & (1 << s)) == 0) {
                    out.add(s);
                }
            }
            long bears = state(out, -1).bears(house);
            boolean better = best < 0 || bears > most
                    || bears == most && Integer.bitCount(set) < Integer.bitCount(best);
            if (better) {
                best = set;
                most = bears;
            }
        }
        return best;
    }

    boolean purse(int house, int n) {
        if (house < 0 || house > 11 || n < 0 || n > 99999999) {
            return false;
        }
        purses[house] = n;
        return true;
    }

    /** Rows of owes, pays, gets, failed; the rounds stand in the last one. */
    private long[][] cleared() {
        State state = state();
        int houses = deed.houses.size();
        long[][] net = new long[houses][houses];
        long[] all = new long[houses];
        for (int a = 0; a < houses; a++) {
            for (int b = 0; b < houses; b++) {
                net[a][b] = Math.max(0, state.owed[a][b] - state.owed[b][a]);
                all[a] += net[a][b];
            }
        }
        long[] paid = all.clone();
        int round = 0;
        boolean changed = true;
        while (changed && round < 200) {
            round++;
            long[] next = new long[houses];
            for (int a = 0; a < houses; a++) {
                next[a] = Math.min(all[a], Math.max(0, purses[a] - state.direct[a]) + partOfPaid(a, paid, net, all));
            }
            changed = !Arrays.equals(next, paid);
            paid = next;
        }
        long[] gets = new long[houses];
        for (int a = 0; a < houses; a++) {
            gets[a] = partOfPaid(a, paid, net, all);
        }
        long[] failed = new long[houses];
        for (int a = 0; a < houses; a++) {
            failed[a] = paid[a] < all[a] || purses[a] < state.direct[a] ? 1 : 0;
        }
        return new long[][] {all, paid, gets, failed, {round}};
    }

    private static long partOfPaid(int house, long[] paid, long[][] net, long[] all) {
        long part = 0;
        for (int other = 0; other < paid.length; other++) {
            part += all[other] == 0 ? 0 : paid[other] * net[other][house] / all[other];
        }
        return part;
    }

    int clears(int house, int what) {
        needHouse(house);
        if (what < 0 || what > 4) {
            throw new NoSuchElementException();
        }
        return (int) cleared()[what][what == 4 ? 0 : house];
    }

    int known(int house, int year, int lag) {
        if (house < 0 || house > 11 || year < 0 || year > 26 || lag < 0 || lag > 9) {
            return -1;
        }
        int day = (year + 1 + lag) * 365 - 1;
        if (day > view()) {
            return -1;
        }
        int sum = 0;
        for (Loss l : losses) {
            if (l.house == house && l.hour / 24 / 365 == year && l.amountOn(day) > 0) {
                sum += l.amountOn(day);
            }
        }
        return sum;
    }

    int factor(int house, int lag) {
        if (house < 0 || house > 11 || lag < 0 || lag > 8) {
            return -1;
        }
        long above = 0;
        long below = 0;
        for (int year = 0; year <= 26; year++) {
            if (known(house, year, lag + 1) != -1) {
                above += known(house, year, lag + 1);
                below += known(house, year, lag);
            }
        }
        return below == 0 ? 1000 : (int) Math.min(1000000, 1000 * above / below);
    }

    int foretold(int house, int year) {
        if (known(house, year, 0) == -1) {
            return -1;
        }
        int lag = 0;
        while (lag < 9 && known(house, year, lag + 1) != -1) {
            lag++;
        }
        long sum = known(house, year, lag);
        for (; lag <= 8; lag++) {
            sum = Math.min(1000000000L, sum * factor(house, lag) / 1000);
        }
        return (int) sum;
    }

    int look(int loss, int what) {
        if (loss < 0 || loss >= losses.size() || what < 0 || what > 6) {
            throw new NoSuchElementException();
        }
        Loss l = losses.get(loss);
        return new int[] {l.house, l.hour, l.place, l.cause, l.storm, l.amountOn(view()), l.split ? 1 : 0}[what];
    }

    int count(int what) {
        switch (what) {
            case 0:
                return deed.houses.size();
            case 1:
                return deed.deals.size();
            case 2:
                return losses.size();
            case 3:
                return words;
            case 4:
                return now;
            case 5:
                return view();
            case 6:
                return counting(leftOut).size();
            case 7:
                return (int) deed.deals.stream().filter(d -> d.commutedOn >= 0 && d.commutedOn <= view()).count();
            case 8:
                return (int) Arrays.stream(cleared()[3]).sum();
            case 9:
                return tape.length();
            default:
                return -1;
        }
    }
}
