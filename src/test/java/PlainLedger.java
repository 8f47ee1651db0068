import java.util.ArrayDeque;
import java.util.ArrayList;
import java.util.Arrays;
import java.util.Comparator;
import java.util.Deque;
import java.util.List;
import java.util.NoSuchElementException;
import java.util.TreeMap;
import java.util.TreeSet;

/**
 * The document once more, as slowly and plainly as can be: contracts are written out year by year, and
 * what would be is found by doing it on a copy. The class is compared with it.
 */
public final class PlainLedger {
    private String text = "";
    private int errorPosition = -1;
    private League league = null;
    private final Deque<League> before = new ArrayDeque<>();

    private static final class Contract {
        int team;
        int first;
        long[] salaries;
        long[] shares;
        int guaranteed;

        Contract(int team, int first, int[] terms) {
            this.team = team;
            this.first = first;
            salaries = new long[terms[2]];
            shares = new long[terms[2]];
            for (int i = 0; i < terms[2]; i++) {
                salaries[i] = terms[0] + (long) terms[0] * terms[1] * i / 100;
            }
            for (int unit = 0; unit < terms[3] % terms[2]; unit++) {
                shares[unit]++;
            }
            for (int i = 0; i < terms[2]; i++) {
                shares[i] += terms[3] / terms[2];
            }
            guaranteed = terms[4];
        }

        Contract(Contract from) {
            team = from.team;
            first = from.first;
            salaries = from.salaries;
            shares = from.shares.clone();
            guaranteed = from.guaranteed;
        }

        long salary(int year) {
            return year >= first && year < first + salaries.length ? salaries[year - first] : 0;
        }

        long share(int year) {
            return year >= first && year < first + shares.length ? shares[year - first] : 0;
        }

        TreeMap<Integer, Long> deadIfReleased(int year, boolean stretch) {
            TreeMap<Integer, Long> dead = new TreeMap<>();
            for (int y = year; y < first + shares.length; y++) {
                dead.merge(year, share(y), Long::sum);
            }
            long all = 0;
            for (int y = year; y < first + guaranteed; y++) {
                all += salary(y);
                if (!stretch) {
                    dead.merge(y, salary(y), Long::sum);
                }
            }
            int span = 2 * (first + salaries.length - year) + 1;
            for (int k = 0; stretch && k < span; k++) {
                dead.merge(year + k, all / span + (k < all % span ? 1 : 0), Long::sum);
            }
            return dead;
        }
    }

    private static final class League {
        int year = 0;
        long cap;
        long line;
        int growth;
        int mid;
        int minimum;
        List<int[]> brackets = new ArrayList<>();
        int teams;
        int players;
        int[] offer = {1, 0, 1, 0, 0};
        Contract[] contracts;
        int[] last;
        int[] tenure;
        int[] left;
        long[] paid;
        List<TreeMap<Integer, Long>> dead = new ArrayList<>();
        List<TreeSet<Integer>> taxed = new ArrayList<>();

        League() {
        }

        League(League from) {
            year = from.year;
            cap = from.cap;
            line = from.line;
            growth = from.growth;
            mid = from.mid;
            minimum = from.minimum;
            brackets = from.brackets;
            teams = from.teams;
            players = from.players;
            offer = from.offer.clone();
            contracts = new Contract[players];
            for (int p = 0; p < players; p++) {
                contracts[p] = from.contracts[p] == null ? null : new Contract(from.contracts[p]);
            }
            last = from.last.clone();
            tenure = from.tenure.clone();
            left = from.left.clone();
            paid = from.paid.clone();
            for (int t = 0; t < teams; t++) {
                dead.add(new TreeMap<>(from.dead.get(t)));
                taxed.add(new TreeSet<>(from.taxed.get(t)));
            }
        }

        void prepare() {
            contracts = new Contract[players];
            last = new int[players];
            Arrays.fill(last, -1);
            tenure = new int[players];
            left = new int[teams];
            Arrays.fill(left, mid);
            paid = new long[teams];
            for (int t = 0; t < teams; t++) {
                dead.add(new TreeMap<>());
                taxed.add(new TreeSet<>());
            }
        }

        long grown(long amount, int then) {
            for (int y = 0; y < then; y++) {
                amount = amount * (1000 + growth) / 1000;
            }
            return amount;
        }

        List<Integer> roster(int team) {
            List<Integer> found = new ArrayList<>();
            for (int p = 0; p < players; p++) {
                if (contracts[p] != null && contracts[p].team == team) {
                    found.add(p);
                }
            }
            return found;
        }

        long charge(int team, int then) {
            long sum = dead.get(team).getOrDefault(then, 0L);
            for (int p : roster(team)) {
                sum += contracts[p].salary(then) + contracts[p].share(then);
            }
            return sum;
        }

        long room(int team) {
            return grown(cap, year) - charge(team, year);
        }

        long excess(int team) {
            return Math.max(0, charge(team, year) - grown(line, year));
        }

        long tax(int team) {
            long rest = excess(team);
            if (rest == 0) {
                return 0;
            }
            long sum = 0;
            for (int k = 0; k < brackets.size(); k++) {
                long part = Math.min(rest, brackets.get(k)[0]);
                if (k == brackets.size() - 1) {
                    part = rest;
                }
                sum += part * brackets.get(k)[1] / 100;
                rest -= part;
            }
            int often = taxed.get(team).subSet(year - 4, year).size();
            return often >= 3 ? sum + excess(team) : sum;
        }

        int signError(int team, int player, int rule) {
            if (contracts[player] != null) {
                return -2;
            }
            if (roster(team).size() == 12) {
                return -3;
            }
            Contract tried = new Contract(team, year, offer);
            long f = tried.salary(year) + tried.share(year);
            boolean allowed = rule == 0 && f <= room(team)
                    || rule == 1 && f <= left[team] && offer[2] <= 3
                    || rule == 2 && offer[0] <= minimum && offer[1] == 0 && offer[3] == 0 && offer[2] <= 2
                    || rule == 3 && last[player] == team && tenure[player] >= 2;
            return allowed ? 0 : -4;
        }

        long sign(int team, int player, int rule) {
            contracts[player] = new Contract(team, year, offer);
            if (last[player] != team) {
                tenure[player] = 0;
            }
            last[player] = team;
            if (rule == 1) {
                left[team] -= (int) (contracts[player].salary(year) + contracts[player].share(year));
            }
            return charge(team, year);
        }

        long release(int player, boolean stretch) {
            long sum = 0;
            TreeMap<Integer, Long> all = dead.get(contracts[player].team);
            TreeMap<Integer, Long> more = contracts[player].deadIfReleased(year, stretch);
            for (int y : more.keySet()) {
                all.merge(y, more.get(y), Long::sum);
                sum += more.get(y);
            }
            contracts[player] = null;
            last[player] = -1;
            tenure[player] = 0;
            return sum;
        }

        int tradeError(int team, int players, int other, int others) {
            if (players == 0 && others == 0) {
                return -2;
            }
            for (int p = 0; p < this.players; p++) {
                boolean plays = contracts[p] != null;
                if ((players & 1 << p) != 0 && !(plays && contracts[p].team == team)
                        || (others & 1 << p) != 0 && !(plays && contracts[p].team == other)) {
                    return -3;
                }
            }
            League then = new League(this);
            then.trade(team, players, other, others);
            if (then.roster(team).size() > 12 || then.roster(other).size() > 12) {
                return -4;
            }
            if (!matches(then, team, players, others)) {
                return -5;
            }
            return matches(then, other, others, players) ? 0 : -6;
        }

        boolean matches(League then, int team, int leaving, int coming) {
            if (then.charge(team, year) <= grown(cap, year)) {
                return true;
            }
            long o = salaries(leaving);
            long limit = charge(team, year) <= grown(line, year) ? o * 125 / 100 + 100 : o * 110 / 100;
            return salaries(coming) <= limit;
        }

        long salaries(int set) {
            long sum = 0;
            for (int p = 0; p < players; p++) {
                sum += (set & 1 << p) != 0 ? contracts[p].salary(year) : 0;
            }
            return sum;
        }

        long trade(int team, int players, int other, int others) {
            for (int p = 0; p < this.players; p++) {
                if (((players | others) & 1 << p) != 0) {
                    Contract moved = contracts[p];
                    for (int i = year - moved.first; i < moved.shares.length; i++) {
                        dead.get(moved.team).merge(year, moved.shares[i], Long::sum);
                        moved.shares[i] = 0;
                    }
                    moved.team = (players & 1 << p) != 0 ? other : team;
                    last[p] = moved.team;
                }
            }
            return charge(team, year) + charge(other, year);
        }

        long endYear() {
            long sum = 0;
            for (int t = 0; t < teams; t++) {
                long due = tax(t);
                sum += due;
                paid[t] += due;
                if (excess(t) > 0) {
                    taxed.get(t).add(year);
                }
            }
            year++;
            for (int p = 0; p < players; p++) {
                if (contracts[p] != null) {
                    tenure[p]++;
                    if (contracts[p].first + contracts[p].salaries.length == year) {
                        contracts[p] = null;
                    }
                }
            }
            Arrays.fill(left, mid);
            return sum;
        }
    }

    // ---- the text

    private static final class Wrong extends Exception {
        private static final long serialVersionUID = 1;
        final int code;
        final int position;

        Wrong(int code, int position) {
            this.code = code;
            this.position = position;
        }
    }

    private static final class Token {
        final String sign;
        final int position;

        Token(String sign, int position) {
            this.sign = sign;
            this.position = position;
        }
    }

    private static List<Token> tokens(String text) {
        List<Token> found = new ArrayList<>();
        int at = 0;
        while (at < text.length()) {
            String rest = text.substring(at);
            String sign = rest.replaceFirst("(?s)^([ \n]+|[a-z]+|[0-9]+|.).*$", "$1");
            if (!sign.isBlank() || sign.charAt(0) != ' ' && sign.charAt(0) != '\n') {
                found.add(new Token(sign, at));
            }
            at += sign.length();
        }
        found.add(new Token("", text.length()));
        return found;
    }

    private static final class Source {
        final List<Token> tokens;
        int next = 0;

        Source(String text) {
            tokens = tokens(text);
        }

        Token peek() {
            return tokens.get(next);
        }

        void sign(String due) throws Wrong {
            if (!peek().sign.equals(due)) {
                throw new Wrong(1, peek().position);
            }
            next++;
        }

        int number(int least, int greatest) throws Wrong {
            Token token = peek();
            if (!token.sign.matches("[0-9]{1,6}")) {
                throw new Wrong(1, token.position);
            }
            int value = Integer.parseInt(token.sign);
            if (value < least || value > greatest) {
                throw new Wrong(2, token.position);
            }
            next++;
            return value;
        }
    }

    private static League parse(String text) throws Wrong {
        Source from = new Source(text);
        League made = new League();
        from.sign("league");
        made.cap = from.number(1, 999999);
        made.line = from.number(1, 999999);
        made.growth = from.number(0, 200);
        made.mid = from.number(0, 99999);
        made.minimum = from.number(1, 99999);
        from.sign(";");
        do {
            if (made.brackets.size() == 4) {
                throw new Wrong(3, from.peek().position);
            }
            from.sign("bracket");
            made.brackets.add(new int[] {from.number(1, 99999), from.number(0, 900)});
            from.sign(";");
        } while (from.peek().sign.equals("bracket"));
        from.sign("teams");
        made.teams = from.number(1, 4);
        from.sign(";");
        from.sign("players");
        made.players = from.number(1, 24);
        from.sign(";");
        made.prepare();
        while (!from.peek().sign.isEmpty()) {
            parseContract(from, made);
        }
        return made;
    }

    private static void parseContract(Source from, League made) throws Wrong {
        from.sign("contract");
        int position = from.peek().position;
        int player = from.number(0, made.players - 1);
        if (made.contracts[player] != null) {
            throw new Wrong(4, position);
        }
        position = from.peek().position;
        int team = from.number(0, made.teams - 1);
        if (made.roster(team).size() == 12) {
            throw new Wrong(4, position);
        }
        int[] terms = new int[5];
        terms[0] = from.number(1, 99999);
        terms[1] = from.number(0, 20);
        terms[2] = from.number(1, 5);
        terms[3] = from.number(0, 99999);
        terms[4] = from.number(0, terms[2]);
        from.sign(";");
        made.contracts[player] = new Contract(team, 0, terms);
        made.last[player] = team;
    }

    public int append(int a, int b, int c, int d, int e) {
        if (text.length() + 20 > 900) {
            throw new IllegalStateException();
        }
        for (int word : new int[] {a, b, c, d, e}) {
            for (int shift = 24; shift >= 0; shift -= 8) {
                text += (char) (word >>> shift & 255);
            }
        }
        return text.length();
    }

    public int truncate(int length) {
        legal(length >= 0 && length <= text.length());
        text = text.substring(0, length);
        return length;
    }

    public int load() {
        String read = text;
        text = "";
        errorPosition = -1;
        try {
            league = parse(read);
            before.clear();
            int count = 0;
            for (Contract contract : league.contracts) {
                count += contract == null ? 0 : 1;
            }
            return count;
        } catch (Wrong wrong) {
            errorPosition = wrong.position;
            return -10 - wrong.code;
        }
    }

    public int errorPosition() {
        return errorPosition;
    }

    // ---- exceptions

    private static void legal(boolean condition) {
        if (!condition) {
            throw new IllegalArgumentException();
        }
    }

    private void needLeague() {
        if (league == null) {
            throw new IllegalStateException();
        }
    }

    private void within(int value, int least, int greatest) {
        needLeague();
        legal(value >= least && value <= greatest);
    }

    private void team(int team) {
        needLeague();
        legal(team >= 0 && team < league.teams);
    }

    private void player(int player) {
        needLeague();
        legal(player >= 0 && player < league.players);
    }

    private void pair(int team, int other) {
        team(team);
        team(other);
        legal(team != other);
    }

    private void sets(int players, int others) {
        legal(players >>> league.players == 0);
        legal(others >>> league.players == 0);
    }

    private void act() {
        before.push(new League(league));
        while (before.size() > 10) {
            before.removeLast();
        }
    }

    // ---- actions

    public int makeOffer(int base, int raise, int length, int bonus, int guaranteed) {
        needLeague();
        legal(base >= 1 && base <= 99999 && raise >= 0 && raise <= 20 && length >= 1 && length <= 5);
        legal(bonus >= 0 && bonus <= 99999 && guaranteed >= 0 && guaranteed <= length);
        act();
        league.offer = new int[] {base, raise, length, bonus, guaranteed};
        Contract tried = new Contract(0, 0, league.offer);
        return (int) (tried.salary(0) + tried.share(0));
    }

    public int sign(int team, int player, int rule) {
        int code = signCode(team, player, rule);
        if (code != 0) {
            return code;
        }
        act();
        return (int) league.sign(team, player, rule);
    }

    public int release(int player, boolean stretch) {
        player(player);
        if (league.contracts[player] == null) {
            return -2;
        }
        act();
        return (int) league.release(player, stretch);
    }

    public int trade(int team, int players, int other, int others) {
        int code = tradeCode(team, players, other, others);
        if (code != 0) {
            return code;
        }
        act();
        return (int) league.trade(team, players, other, others);
    }

    public long nextYear() {
        needLeague();
        if (league.year == 15) {
            return -2;
        }
        act();
        return league.endYear();
    }

    // ---- queries

    public int year() {
        needLeague();
        return league.year;
    }

    public int cap(int ahead) {
        within(ahead, 0, 11);
        return (int) league.grown(league.cap, league.year + ahead);
    }

    public int taxLine(int ahead) {
        within(ahead, 0, 11);
        return (int) league.grown(league.line, league.year + ahead);
    }

    public int offer(int what) {
        within(what, 0, 4);
        return league.offer[what];
    }

    public int charge(int team, int ahead) {
        team(team);
        within(ahead, 0, 11);
        return (int) league.charge(team, league.year + ahead);
    }

    public int deadMoney(int team, int ahead) {
        team(team);
        within(ahead, 0, 11);
        return (int) (long) league.dead.get(team).getOrDefault(league.year + ahead, 0L);
    }

    public int room(int team) {
        team(team);
        return (int) league.room(team);
    }

    public long tax(int team) {
        team(team);
        return league.tax(team);
    }

    public long paid(int team) {
        team(team);
        return league.paid[team];
    }

    public int taxedYears(int team) {
        team(team);
        int set = 0;
        for (int y : league.taxed.get(team)) {
            set |= 1 << y;
        }
        return set;
    }

    public int midLevel(int team) {
        team(team);
        return league.left[team];
    }

    public int roster(int team) {
        team(team);
        return setOf(league.roster(team));
    }

    private static int setOf(List<Integer> players) {
        int set = 0;
        for (int p : players) {
            set |= 1 << p;
        }
        return set;
    }

    public int teamRank(int what, int place) {
        within(what, 0, 4);
        legal(place >= 0);
        List<Integer> teams = new ArrayList<>();
        for (int t = 0; t < league.teams; t++) {
            teams.add(t);
        }
        teams.sort(Comparator.comparingLong((Integer t) -> -measure(t, what)));
        return at(teams, place);
    }

    private long measure(int team, int what) {
        switch (what) {
            case 0:
                return league.charge(team, league.year);
            case 1:
                return league.room(team);
            case 2:
                return league.dead.get(team).getOrDefault(league.year, 0L);
            case 3:
                return league.tax(team);
            default:
                return league.roster(team).size();
        }
    }

    private static int at(List<Integer> ranking, int place) {
        if (place >= ranking.size()) {
            throw new NoSuchElementException();
        }
        return ranking.get(place);
    }

    public int playerValue(int player, int what) {
        player(player);
        within(what, 0, 6);
        Contract contract = league.contracts[player];
        if (what == 0) {
            return contract == null ? -1 : contract.team;
        }
        if (what == 1) {
            return league.last[player];
        }
        if (what == 2) {
            return league.tenure[player];
        }
        if (contract == null) {
            return -2;
        }
        long shares = 0;
        for (int y = league.year; y < league.year + 5; y++) {
            shares += contract.share(y);
        }
        int[] values = {league.year - contract.first, contract.first + contract.salaries.length - league.year,
            contract.guaranteed, (int) shares};
        return values[what - 3];
    }

    public int salary(int player, int ahead) {
        player(player);
        within(ahead, 0, 11);
        Contract contract = league.contracts[player];
        return contract == null ? 0 : (int) contract.salary(league.year + ahead);
    }

    public int share(int player, int ahead) {
        player(player);
        within(ahead, 0, 11);
        Contract contract = league.contracts[player];
        return contract == null ? 0 : (int) contract.share(league.year + ahead);
    }

    public int playerRank(int place) {
        needLeague();
        legal(place >= 0);
        List<Integer> ranking = new ArrayList<>();
        for (int p = 0; p < league.players; p++) {
            if (league.contracts[p] != null) {
                ranking.add(p);
            }
        }
        ranking.sort(Comparator.comparingInt((Integer p) -> -salary(p, 0) - share(p, 0)));
        return at(ranking, place);
    }

    public double meanSalary(int team) {
        team(team);
        List<Integer> players = league.roster(team);
        if (players.isEmpty()) {
            throw new ArithmeticException();
        }
        return (double) league.salaries(setOf(players)) / (double) players.size();
    }

    public int signCode(int team, int player, int rule) {
        team(team);
        player(player);
        within(rule, 0, 3);
        return league.signError(team, player, rule);
    }

    public int bestRule(int team, int player) {
        team(team);
        player(player);
        for (int rule = 0; rule < 4; rule++) {
            if (league.signError(team, player, rule) == 0) {
                return rule;
            }
        }
        return -2;
    }

    /** A rule that allows a base salary allows every lower one, so halving finds the greatest. */
    public int greatestBase(int team, int player, int rule) {
        signCode(team, player, rule);
        League tried = new League(league);
        int low = 0;
        int high = 99999;
        while (low < high) {
            int middle = (low + high + 1) / 2;
            tried.offer[0] = middle;
            if (tried.signError(team, player, rule) == 0) {
                low = middle;
            } else {
                high = middle - 1;
            }
        }
        return low == 0 ? -2 : low;
    }

    public int releaseCost(int player, boolean stretch, int ahead) {
        player(player);
        within(ahead, 0, 11);
        Contract contract = league.contracts[player];
        return contract == null ? -2
                : (int) (long) contract.deadIfReleased(league.year, stretch).getOrDefault(league.year + ahead, 0L);
    }

    public int releaseGain(int player, boolean stretch) {
        player(player);
        if (league.contracts[player] == null) {
            return 0;
        }
        League tried = new League(league);
        tried.release(player, stretch);
        int team = league.contracts[player].team;
        return (int) (tried.room(team) - league.room(team));
    }

    public int fewestReleases(int team) {
        int set = releaseSet(team);
        return set < 0 ? set : Integer.bitCount(set);
    }

    public int releaseSet(int team) {
        team(team);
        List<Integer> players = league.roster(team);
        int all = setOf(players);
        int best = -2;
        long bestCost = 0;
        for (int set = all; ; set = (set - 1) & all) {
            League tried = new League(league);
            long cost = 0;
            for (int p : players) {
                cost += (set & 1 << p) != 0 ? tried.release(p, false) : 0;
            }
            if (tried.room(team) >= 0) {
                int size = Integer.bitCount(set) - Integer.bitCount(Math.max(best, 0));
                if (best == -2 || size < 0 || size == 0 && cost <= bestCost) {
                    best = set;
                    bestCost = cost;
                }
            }
            if (set == 0) {
                return best;
            }
        }
    }

    public int tradeCode(int team, int players, int other, int others) {
        pair(team, other);
        sets(players, others);
        return league.tradeError(team, players, other, others);
    }

    public int swapCount(int team, int other) {
        pair(team, other);
        int count = 0;
        for (int p : league.roster(team)) {
            for (int q : league.roster(other)) {
                count += league.tradeError(team, 1 << p, other, 1 << q) == 0 ? 1 : 0;
            }
        }
        return count;
    }

    public int bestSwap(int team, int other) {
        pair(team, other);
        TreeMap<Long, TreeSet<Integer>> found = new TreeMap<>();
        for (int p : league.roster(team)) {
            for (int q : league.roster(other)) {
                if (league.tradeError(team, 1 << p, other, 1 << q) == 0) {
                    League tried = new League(league);
                    tried.trade(team, 1 << p, other, 1 << q);
                    found.computeIfAbsent(tried.tax(team) + tried.tax(other), k -> new TreeSet<>()).add(32 * p + q);
                }
            }
        }
        return found.isEmpty() ? -2 : found.firstEntry().getValue().first();
    }

    public long taxAhead(int team, int years) {
        team(team);
        within(years, 1, 8);
        League tried = new League(league);
        for (int k = 0; k < years; k++) {
            tried.endYear();
        }
        return tried.paid[team] - league.paid[team];
    }

    public int undo() {
        needLeague();
        if (before.isEmpty()) {
            return -2;
        }
        league = before.pop();
        return before.size();
    }
}
