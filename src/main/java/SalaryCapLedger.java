import java.util.NoSuchElementException;

/**
 * A ledger for the salary caps of a league: contracts with raises and prorated bonuses, dead money
 * of released players, exceptions for teams above the cap, trades with matching salaries, and a
 * luxury tax in brackets.
 */
public final class SalaryCapLedger {
    public static final int NONE = -1;

    private static final int MAX_TEXT = 900;
    private static final int MAX_BRACKETS = 4;
    private static final int MAX_TEAMS = 4;
    private static final int MAX_PLAYERS = 24;
    private static final int MAX_ROSTER = 12;
    private static final int MAX_AMOUNT = 99999;
    private static final int MAX_LINE = 999999;
    private static final int MAX_RAISE = 20;
    private static final int MAX_LENGTH = 5;
    private static final int LAST_YEAR = 15;
    private static final int MAX_AHEAD = 11;
    private static final int YEARS = LAST_YEAR + MAX_AHEAD + 1;
    private static final int REMEMBERED = 10;

    private static final int RULE_ROOM = 0;
    private static final int RULE_MID_LEVEL = 1;
    private static final int RULE_MINIMUM = 2;
    private static final int RULE_OWN_PLAYER = 3;

    private final byte[] text = new byte[MAX_TEXT];
    private int textLength = 0;
    private int errorAt = NONE;
    private final Reader reader = new Reader();
    private final History history = new History();
    private final Releases releases = new Releases();
    private boolean loaded = false;
    private Terms terms = new Terms();
    private Books books = new Books();
    // A text is read into these, so that a wrong one leaves the current league alone.
    private Terms spareTerms = new Terms();
    private Books spareBooks = new Books();

    public SalaryCapLedger() {
    }

    // ---- the text

    public int append(int a, int b, int c, int d, int e) throws IllegalStateException {
        if (textLength + 20 > MAX_TEXT) {
            throw new IllegalStateException("the text buffer is full");
        }
        appendWord(a);
        appendWord(b);
        appendWord(c);
        appendWord(d);
        appendWord(e);
        return textLength;
    }

    private void appendWord(int word) {
        for (int shift = 24; shift >= 0 && textLength < MAX_TEXT; shift -= 8) {
            text[textLength] = (byte) (word >>> shift);
            textLength++;
        }
    }

    public int truncate(int length) throws IllegalArgumentException {
        requireRange(length, 0, textLength);
        textLength = length;
        return textLength;
    }

    public int load() {
        reader.readText(text, textLength, spareTerms, spareBooks);
        textLength = 0;
        errorAt = reader.errorAt;
        if (reader.failed()) {
            return -10 - reader.errorCode;
        }
        useSpareLeague();
        return reader.contracts;
    }

    private void useSpareLeague() {
        Terms formerTerms = terms;
        terms = spareTerms;
        spareTerms = formerTerms;
        Books formerBooks = books;
        books = spareBooks;
        spareBooks = formerBooks;
        history.forget();
        loaded = true;
    }

    public int errorPosition() {
        return errorAt;
    }

    // ---- actions

    public int makeOffer(int base, int raise, int length, int bonus, int guaranteed)
            throws IllegalStateException, IllegalArgumentException {
        requireLeague();
        requireRange(base, 1, MAX_AMOUNT);
        requireRange(raise, 0, MAX_RAISE);
        requireRange(length, 1, MAX_LENGTH);
        requireRange(bonus, 0, MAX_AMOUNT);
        requireRange(guaranteed, 0, length);
        history.remember(books);
        books.offered.agree(base, raise, length, bonus, guaranteed);
        return books.offered.salaryOf(0) + books.offered.shareOf(0);
    }

    public int sign(int team, int player, int rule) throws IllegalStateException, IllegalArgumentException {
        requireLeague();
        requireTeam(team);
        requirePlayer(player);
        requireRange(rule, RULE_ROOM, RULE_OWN_PLAYER);
        int error = signError(team, player, rule);
        if (error != 0) {
            return error;
        }
        history.remember(books);
        if (rule == RULE_MID_LEVEL) {
            books.teams[team].midLevelLeft -= books.offered.salaryOf(0) + books.offered.shareOf(0);
        }
        books.players[player].begin(team, books.now, books.offered);
        return books.chargeNow(team);
    }

    public int release(int player, boolean stretch) throws IllegalStateException, IllegalArgumentException {
        requireLeague();
        requirePlayer(player);
        if (!books.players[player].hasContract()) {
            return -2;
        }
        history.remember(books);
        return books.dismiss(player, stretch);
    }

    public int trade(int team, int players, int other, int others)
            throws IllegalStateException, IllegalArgumentException {
        requireLeague();
        requireTrade(team, players, other, others);
        int error = tradeError(team, players, other, others);
        if (error != 0) {
            return error;
        }
        history.remember(books);
        books.move(players, team, other);
        books.move(others, other, team);
        return books.chargeNow(team) + books.chargeNow(other);
    }

    public long nextYear() throws IllegalStateException {
        requireLeague();
        if (books.now >= LAST_YEAR) {
            return -2;
        }
        history.remember(books);
        long sum = 0;
        for (int team = 0; team < terms.teamCount; team++) {
            sum += payTax(team);
        }
        books.endYear(terms.midLevelAmount);
        return sum;
    }

    private long payTax(int team) {
        int charged = books.chargeNow(team);
        long due = taxOn(team, charged);
        books.teams[team].taxesPaid += due;
        if (terms.isTaxed(charged, books.now)) {
            books.teams[team].taxedSet |= 1 << books.now;
        }
        return due;
    }

    // ---- the league

    public int year() throws IllegalStateException {
        requireLeague();
        return books.now;
    }

    public int cap(int ahead) throws IllegalStateException, IllegalArgumentException {
        requireLeague();
        requireRange(ahead, 0, MAX_AHEAD);
        return terms.capIn(books.now + ahead);
    }

    public int taxLine(int ahead) throws IllegalStateException, IllegalArgumentException {
        requireLeague();
        requireRange(ahead, 0, MAX_AHEAD);
        return terms.taxLineIn(books.now + ahead);
    }

    public int offer(int what) throws IllegalStateException, IllegalArgumentException {
        requireLeague();
        requireRange(what, 0, 4);
        switch (what) {
            case 0:
                return books.offered.base;
            case 1:
                return books.offered.raise;
            case 2:
                return books.offered.length;
            case 3:
                return books.offered.bonus;
            default:
                return books.offered.guaranteed;
        }
    }

    // ---- teams

    public int charge(int team, int ahead) throws IllegalStateException, IllegalArgumentException {
        requireLeague();
        requireTeam(team);
        requireRange(ahead, 0, MAX_AHEAD);
        return books.chargeIn(team, books.now + ahead);
    }

    public int deadMoney(int team, int ahead) throws IllegalStateException, IllegalArgumentException {
        requireLeague();
        requireTeam(team);
        requireRange(ahead, 0, MAX_AHEAD);
        return books.teams[team].deadIn(books.now + ahead);
    }

    public int room(int team) throws IllegalStateException, IllegalArgumentException {
        requireLeague();
        requireTeam(team);
        return roomOf(team);
    }

    public long tax(int team) throws IllegalStateException, IllegalArgumentException {
        requireLeague();
        requireTeam(team);
        return taxOn(team, books.chargeNow(team));
    }

    public long paid(int team) throws IllegalStateException, IllegalArgumentException {
        requireLeague();
        requireTeam(team);
        return books.teams[team].taxesPaid;
    }

    public int taxedYears(int team) throws IllegalStateException, IllegalArgumentException {
        requireLeague();
        requireTeam(team);
        return books.teams[team].taxedSet;
    }

    public int midLevel(int team) throws IllegalStateException, IllegalArgumentException {
        requireLeague();
        requireTeam(team);
        return books.teams[team].midLevelLeft;
    }

    public int roster(int team) throws IllegalStateException, IllegalArgumentException {
        requireLeague();
        requireTeam(team);
        return books.playersOf(team);
    }

    public int teamRank(int what, int place)
            throws IllegalStateException, IllegalArgumentException, NoSuchElementException {
        requireLeague();
        requireRange(what, 0, 4);
        requireNotNegative(place);
        for (int team = 0; team < terms.teamCount; team++) {
            if (teamsBefore(team, what) == place) {
                return team;
            }
        }
        throw new NoSuchElementException("there are not so many teams");
    }

    private int teamsBefore(int team, int what) {
        long own = teamMeasure(team, what);
        int before = 0;
        for (int rival = 0; rival < terms.teamCount; rival++) {
            long measure = teamMeasure(rival, what);
            if (measure > own || measure == own && rival < team) {
                before++;
            }
        }
        return before;
    }

    private long teamMeasure(int team, int what) {
        switch (what) {
            case 0:
                return books.chargeNow(team);
            case 1:
                return roomOf(team);
            case 2:
                return books.teams[team].deadIn(books.now);
            case 3:
                return taxOn(team, books.chargeNow(team));
            default:
                return Integer.bitCount(books.playersOf(team));
        }
    }

    // ---- players

    public int playerValue(int player, int what) throws IllegalStateException, IllegalArgumentException {
        requireLeague();
        requirePlayer(player);
        requireRange(what, 0, 6);
        Player one = books.players[player];
        switch (what) {
            case 0:
                return one.team;
            case 1:
                return one.lastTeam;
            case 2:
                return one.tenure;
            default:
                return one.hasContract() ? contractValue(one, what) : -2;
        }
    }

    private int contractValue(Player one, int what) {
        int number = books.now - one.start;
        switch (what) {
            case 3:
                return number;
            case 4:
                return one.deal.length - number;
            case 5:
                return one.deal.guaranteed;
            default:
                return one.deal.sharesFrom(number);
        }
    }

    public int salary(int player, int ahead) throws IllegalStateException, IllegalArgumentException {
        requireLeague();
        requirePlayer(player);
        requireRange(ahead, 0, MAX_AHEAD);
        return books.players[player].salaryIn(books.now + ahead);
    }

    public int share(int player, int ahead) throws IllegalStateException, IllegalArgumentException {
        requireLeague();
        requirePlayer(player);
        requireRange(ahead, 0, MAX_AHEAD);
        return books.players[player].shareIn(books.now + ahead);
    }

    public int playerRank(int place)
            throws IllegalStateException, IllegalArgumentException, NoSuchElementException {
        requireLeague();
        requireNotNegative(place);
        for (int player = 0; player < terms.playerCount; player++) {
            if (books.players[player].hasContract() && playersBefore(player) == place) {
                return player;
            }
        }
        throw new NoSuchElementException("there are not so many players with a contract");
    }

    private int playersBefore(int player) {
        int own = books.players[player].costIn(books.now);
        int before = 0;
        for (int k = 0; k < terms.playerCount; k++) {
            Player rival = books.players[k];
            int cost = rival.costIn(books.now);
            if (rival.hasContract() && (cost > own || cost == own && k < player)) {
                before++;
            }
        }
        return before;
    }

    public double meanSalary(int team)
            throws IllegalStateException, IllegalArgumentException, ArithmeticException {
        requireLeague();
        requireTeam(team);
        int players = books.playersOf(team);
        int count = Integer.bitCount(players);
        if (count == 0) {
            throw new ArithmeticException("the team has no players");
        }
        return (double) books.salariesNow(players) / (double) count;
    }

    // ---- what would be

    public int signCode(int team, int player, int rule) throws IllegalStateException, IllegalArgumentException {
        requireLeague();
        requireTeam(team);
        requirePlayer(player);
        requireRange(rule, RULE_ROOM, RULE_OWN_PLAYER);
        return signError(team, player, rule);
    }

    public int bestRule(int team, int player) throws IllegalStateException, IllegalArgumentException {
        requireLeague();
        requireTeam(team);
        requirePlayer(player);
        for (int rule = RULE_ROOM; rule <= RULE_OWN_PLAYER; rule++) {
            if (signError(team, player, rule) == 0) {
                return rule;
            }
        }
        return -2;
    }

    public int greatestBase(int team, int player, int rule)
            throws IllegalStateException, IllegalArgumentException {
        requireLeague();
        requireTeam(team);
        requirePlayer(player);
        requireRange(rule, RULE_ROOM, RULE_OWN_PLAYER);
        if (placeError(team, player) != 0) {
            return -2;
        }
        int limit = Math.min(baseLimit(team, player, rule), MAX_AMOUNT);
        return limit < 1 ? -2 : limit;
    }

    private int signError(int team, int player, int rule) {
        int error = placeError(team, player);
        if (error != 0) {
            return error;
        }
        return books.offered.base <= baseLimit(team, player, rule) ? 0 : -4;
    }

    private int placeError(int team, int player) {
        if (books.players[player].hasContract()) {
            return -2;
        }
        return Integer.bitCount(books.playersOf(team)) >= MAX_ROSTER ? -3 : 0;
    }

    /** The greatest base salary that a rule allows with the other terms of the offer; below 1 if there is none. */
    private int baseLimit(int team, int player, int rule) {
        Deal offered = books.offered;
        Player one = books.players[player];
        switch (rule) {
            case RULE_ROOM:
                return roomOf(team) - offered.shareOf(0);
            case RULE_MID_LEVEL:
                return offered.length <= 3 ? books.teams[team].midLevelLeft - offered.shareOf(0) : 0;
            case RULE_MINIMUM:
                return offered.raise == 0 && offered.bonus == 0 && offered.length <= 2 ? terms.minimumSalary : 0;
            default:
                return one.lastTeam == team && one.tenure >= 2 ? MAX_AMOUNT : 0;
        }
    }

    public int releaseCost(int player, boolean stretch, int ahead)
            throws IllegalStateException, IllegalArgumentException {
        requireLeague();
        requirePlayer(player);
        requireRange(ahead, 0, MAX_AHEAD);
        Player one = books.players[player];
        return one.hasContract() ? one.releaseCostAhead(books.now, stretch, ahead) : -2;
    }

    public int releaseGain(int player, boolean stretch) throws IllegalStateException, IllegalArgumentException {
        requireLeague();
        requirePlayer(player);
        Player one = books.players[player];
        return one.hasContract() ? one.gainIfReleased(books.now, stretch) : 0;
    }

    public int fewestReleases(int team) throws IllegalStateException, IllegalArgumentException {
        requireLeague();
        requireTeam(team);
        releases.consider(books, team);
        return releases.fewest(-roomOf(team));
    }

    public int releaseSet(int team) throws IllegalStateException, IllegalArgumentException {
        requireLeague();
        requireTeam(team);
        releases.consider(books, team);
        return releases.cheapestSet(-roomOf(team));
    }

    public int tradeCode(int team, int players, int other, int others)
            throws IllegalStateException, IllegalArgumentException {
        requireLeague();
        requireTrade(team, players, other, others);
        return tradeError(team, players, other, others);
    }

    private int tradeError(int team, int players, int other, int others) {
        int own = books.playersOf(team);
        int theirs = books.playersOf(other);
        if (players == 0 && others == 0) {
            return -2;
        }
        if ((players & ~own) != 0 || (others & ~theirs) != 0) {
            return -3;
        }
        int leaving = Integer.bitCount(players);
        int coming = Integer.bitCount(others);
        if (Integer.bitCount(own) - leaving + coming > MAX_ROSTER
                || Integer.bitCount(theirs) - coming + leaving > MAX_ROSTER) {
            return -4;
        }
        if (!salariesMatch(books.chargeNow(team), players, others)) {
            return -5;
        }
        return salariesMatch(books.chargeNow(other), others, players) ? 0 : -6;
    }

    private boolean salariesMatch(int chargeBefore, int leaving, int coming) {
        if (chargeBefore + books.chargeChange(leaving, coming) <= terms.capIn(books.now)) {
            return true;
        }
        long out = books.salariesNow(leaving);
        long limit = chargeBefore <= terms.taxLineIn(books.now) ? out * 125 / 100 + 100 : out * 110 / 100;
        return books.salariesNow(coming) <= limit;
    }

    private boolean swapMatches(int charged, int player, int otherCharged, int rival) {
        return salariesMatch(charged, 1 << player, 1 << rival) && salariesMatch(otherCharged, 1 << rival, 1 << player);
    }

    public int swapCount(int team, int other) throws IllegalStateException, IllegalArgumentException {
        requireLeague();
        requireTwoTeams(team, other);
        int charged = books.chargeNow(team);
        int otherCharged = books.chargeNow(other);
        int count = 0;
        for (int player = 0; player < terms.playerCount; player++) {
            for (int rival = 0; books.playsFor(player, team) && rival < terms.playerCount; rival++) {
                if (books.playsFor(rival, other) && swapMatches(charged, player, otherCharged, rival)) {
                    count++;
                }
            }
        }
        return count;
    }

    public int bestSwap(int team, int other) throws IllegalStateException, IllegalArgumentException {
        requireLeague();
        requireTwoTeams(team, other);
        int charged = books.chargeNow(team);
        int otherCharged = books.chargeNow(other);
        int best = -2;
        long leastTaxes = 0;
        for (int player = 0; player < terms.playerCount; player++) {
            for (int rival = 0; books.playsFor(player, team) && rival < terms.playerCount; rival++) {
                if (books.playsFor(rival, other) && swapMatches(charged, player, otherCharged, rival)) {
                    long taxes = taxOn(team, charged + books.chargeChange(1 << player, 1 << rival))
                            + taxOn(other, otherCharged + books.chargeChange(1 << rival, 1 << player));
                    if (best < 0 || taxes < leastTaxes) {
                        leastTaxes = taxes;
                        best = 32 * player + rival;
                    }
                }
            }
        }
        return best;
    }

    public long taxAhead(int team, int years) throws IllegalStateException, IllegalArgumentException {
        requireLeague();
        requireTeam(team);
        requireRange(years, 1, 8);
        int taxed = books.teams[team].taxedSet;
        long sum = 0;
        for (int ahead = 0; ahead < years; ahead++) {
            int then = books.now + ahead;
            int charged = books.chargeIn(team, then);
            sum += terms.taxOf(charged, then, taxed);
            if (terms.isTaxed(charged, then)) {
                taxed |= 1 << then;
            }
        }
        return sum;
    }

    public int undo() throws IllegalStateException {
        requireLeague();
        if (history.count == 0) {
            return -2;
        }
        history.restoreTo(books);
        return history.count;
    }

    // ---- common parts

    private int roomOf(int team) {
        return terms.capIn(books.now) - books.chargeIn(team, books.now);
    }

    private long taxOn(int team, int charged) {
        return terms.taxOf(charged, books.now, books.teams[team].taxedSet);
    }

    private void requireLeague() {
        if (!loaded) {
            throw new IllegalStateException("no league was loaded");
        }
    }

    private void requireTeam(int team) {
        requireRange(team, 0, terms.teamCount - 1);
    }

    private void requirePlayer(int player) {
        requireRange(player, 0, terms.playerCount - 1);
    }

    private void requireTwoTeams(int team, int other) {
        requireTeam(team);
        requireTeam(other);
        if (team == other) {
            throw new IllegalArgumentException("both teams are the same");
        }
    }

    private void requireTrade(int team, int players, int other, int others) {
        requireTwoTeams(team, other);
        requireRange(players, 0, (1 << terms.playerCount) - 1);
        requireRange(others, 0, (1 << terms.playerCount) - 1);
    }

    private static void requireNotNegative(int place) {
        if (place < 0) {
            throw new IllegalArgumentException("a place is negative");
        }
    }

    private static void requireRange(int value, int least, int greatest) {
        if (value < least || value > greatest) {
            throw new IllegalArgumentException("an argument is out of its range");
        }
    }

    /** What an offer or a contract is about. The years of a contract are numbered from 0. */
    private static final class Deal {
        int base = 1;
        int raise = 0;
        int length = 1;
        int bonus = 0;
        int guaranteed = 0;

        void agree(int newBase, int newRaise, int newLength, int newBonus, int newGuaranteed) {
            base = newBase;
            raise = newRaise;
            length = newLength;
            bonus = newBonus;
            guaranteed = newGuaranteed;
        }

        void copyFrom(Deal from) {
            agree(from.base, from.raise, from.length, from.bonus, from.guaranteed);
        }

        int salaryOf(int number) {
            if (number < 0 || number >= length) {
                return 0;
            }
            return base + base * raise * number / 100;
        }

        int shareOf(int number) {
            if (number < 0 || number >= length) {
                return 0;
            }
            return bonus / length + (number < bonus % length ? 1 : 0);
        }

        int sharesFrom(int number) {
            int sum = 0;
            for (int k = number; k < length; k++) {
                sum += shareOf(k);
            }
            return sum;
        }

        int guaranteedFrom(int number) {
            int sum = 0;
            for (int k = number; k < guaranteed; k++) {
                sum += salaryOf(k);
            }
            return sum;
        }

        int stretchedPart(int number, int ahead) {
            int years = 2 * (length - number) + 1;
            if (years < 1 || ahead >= years) {
                return 0;
            }
            int all = guaranteedFrom(number);
            return all / years + (ahead < all % years ? 1 : 0);
        }

        int guaranteedPart(int number, int ahead) {
            return number + ahead < guaranteed ? salaryOf(number + ahead) : 0;
        }
    }

    private static final class Player {
        int team = NONE;
        int lastTeam = NONE;
        int tenure = 0;
        int start = 0;
        final Deal deal = new Deal();

        boolean hasContract() {
            return team != NONE;
        }

        void becomeUnknown() {
            team = NONE;
            lastTeam = NONE;
            tenure = 0;
        }

        void copyFrom(Player from) {
            team = from.team;
            lastTeam = from.lastTeam;
            tenure = from.tenure;
            start = from.start;
            deal.copyFrom(from.deal);
        }

        void begin(int newTeam, int now, Deal offered) {
            if (lastTeam != newTeam) {
                tenure = 0;
            }
            team = newTeam;
            lastTeam = newTeam;
            start = now;
            deal.copyFrom(offered);
        }

        void endYear(int next) {
            if (!hasContract()) {
                return;
            }
            tenure++;
            if (next - start >= deal.length) {
                team = NONE;
            }
        }

        int salaryIn(int then) {
            return hasContract() ? deal.salaryOf(then - start) : 0;
        }

        int shareIn(int then) {
            return hasContract() ? deal.shareOf(then - start) : 0;
        }

        int costIn(int then) {
            return hasContract() ? deal.salaryOf(then - start) + deal.shareOf(then - start) : 0;
        }

        int sharesLeft(int now) {
            return hasContract() ? deal.sharesFrom(now - start) : 0;
        }

        int releaseCostAhead(int now, boolean stretch, int ahead) {
            int number = now - start;
            int shares = ahead == 0 ? deal.sharesFrom(number) : 0;
            return shares + (stretch ? deal.stretchedPart(number, ahead) : deal.guaranteedPart(number, ahead));
        }

        /** The guaranteed salaries sum up to the same, stretched or not. */
        int wholeReleaseCost(int now) {
            return deal.sharesFrom(now - start) + deal.guaranteedFrom(now - start);
        }

        int gainIfReleased(int now, boolean stretch) {
            return costIn(now) - releaseCostAhead(now, stretch, 0);
        }
    }

    private static final class Team {
        final int[] dead = new int[YEARS];
        long taxesPaid = 0;
        int taxedSet = 0;
        int midLevelLeft = 0;

        void clear() {
            for (int k = 0; k < YEARS; k++) {
                dead[k] = 0;
            }
            taxesPaid = 0;
            taxedSet = 0;
            midLevelLeft = 0;
        }

        void copyFrom(Team from) {
            System.arraycopy(from.dead, 0, dead, 0, YEARS);
            taxesPaid = from.taxesPaid;
            taxedSet = from.taxedSet;
            midLevelLeft = from.midLevelLeft;
        }

        int deadIn(int then) {
            return then >= 0 && then < YEARS ? dead[then] : 0;
        }

        void addDead(int then, int amount) {
            if (then >= 0 && then < YEARS) {
                dead[then] += amount;
            }
        }
    }

    /** What the text fixes for the whole league, and what follows from it alone. */
    private static final class Terms {
        final int[] caps = new int[YEARS];
        final int[] taxLines = new int[YEARS];
        final int[] sizes = new int[MAX_BRACKETS];
        final int[] rates = new int[MAX_BRACKETS];
        int bracketCount = 0;
        int midLevelAmount = 0;
        int minimumSalary = 0;
        int teamCount = 0;
        int playerCount = 0;

        void growLines(int cap, int taxLine, int growth) {
            long high = cap;
            long line = taxLine;
            for (int k = 0; k < YEARS; k++) {
                caps[k] = (int) high;
                taxLines[k] = (int) line;
                high = high * (1000 + growth) / 1000;
                line = line * (1000 + growth) / 1000;
            }
        }

        void addBracket(int size, int rate) {
            if (bracketCount < MAX_BRACKETS) {
                sizes[bracketCount] = size;
                rates[bracketCount] = rate;
                bracketCount++;
            }
        }

        int capIn(int then) {
            return then >= 0 && then < YEARS ? caps[then] : 0;
        }

        int taxLineIn(int then) {
            return then >= 0 && then < YEARS ? taxLines[then] : 0;
        }

        boolean isTaxed(int charged, int then) {
            return charged > taxLineIn(then);
        }

        long taxOf(int charged, int then, int taxedSet) {
            if (!isTaxed(charged, then)) {
                return 0;
            }
            long excess = (long) charged - taxLineIn(then);
            long left = excess;
            long sum = 0;
            for (int k = 0; k < bracketCount; k++) {
                long part = k == bracketCount - 1 ? left : Math.min(left, sizes[k]);
                sum += part * rates[k] / 100;
                left -= part;
            }
            return isTaxedOften(then, taxedSet) ? sum + excess : sum;
        }

        /** The set holds years before this one alone, so the lowest four bits are left in the first four years. */
        private boolean isTaxedOften(int then, int taxedSet) {
            int fourBefore = (then > 4 ? taxedSet >>> (then - 4) : taxedSet) & 15;
            return Integer.bitCount(fourBefore) >= 3;
        }
    }

    /** All that actions change and undo() brings back. */
    private static final class Books {
        final Player[] players = new Player[MAX_PLAYERS];
        final Team[] teams = new Team[MAX_TEAMS];
        final Deal offered = new Deal();
        int now = 0;

        Books() {
            for (int k = 0; k < MAX_PLAYERS; k++) {
                players[k] = new Player();
            }
            for (int k = 0; k < MAX_TEAMS; k++) {
                teams[k] = new Team();
            }
        }

        void clear() {
            for (int k = 0; k < MAX_PLAYERS; k++) {
                players[k].becomeUnknown();
            }
            for (int k = 0; k < MAX_TEAMS; k++) {
                teams[k].clear();
            }
            offered.agree(1, 0, 1, 0, 0);
            now = 0;
        }

        void copyFrom(Books from) {
            for (int k = 0; k < MAX_PLAYERS; k++) {
                players[k].copyFrom(from.players[k]);
            }
            for (int k = 0; k < MAX_TEAMS; k++) {
                teams[k].copyFrom(from.teams[k]);
            }
            offered.copyFrom(from.offered);
            now = from.now;
        }

        void refillMidLevel(int amount) {
            for (int k = 0; k < MAX_TEAMS; k++) {
                teams[k].midLevelLeft = amount;
            }
        }

        boolean playsFor(int player, int team) {
            return players[player].team == team;
        }

        int playersOf(int team) {
            int set = 0;
            for (int k = 0; k < MAX_PLAYERS; k++) {
                if (playsFor(k, team)) {
                    set |= 1 << k;
                }
            }
            return set;
        }

        int chargeIn(int team, int then) {
            int sum = teams[team].deadIn(then);
            for (int k = 0; k < MAX_PLAYERS; k++) {
                if (playsFor(k, team)) {
                    sum += players[k].costIn(then);
                }
            }
            return sum;
        }

        int chargeNow(int team) {
            return chargeIn(team, now);
        }

        int salariesNow(int set) {
            int sum = 0;
            for (int k = 0; k < MAX_PLAYERS; k++) {
                if ((set >> k & 1) == 1) {
                    sum += players[k].salaryIn(now);
                }
            }
            return sum;
        }

        /** By how much a trade changes the present charge of a team: those that come have no shares any more. */
        int chargeChange(int leaving, int coming) {
            int sum = salariesNow(coming);
            for (int k = 0; k < MAX_PLAYERS; k++) {
                if ((leaving >> k & 1) == 1) {
                    sum += players[k].sharesLeft(now) - players[k].costIn(now);
                }
            }
            return sum;
        }

        int dismiss(int player, boolean stretch) {
            Player one = players[player];
            if (!one.hasContract()) {
                return 0;
            }
            int sum = 0;
            for (int ahead = 0; ahead <= MAX_AHEAD; ahead++) {
                int cost = one.releaseCostAhead(now, stretch, ahead);
                teams[one.team].addDead(now + ahead, cost);
                sum += cost;
            }
            one.becomeUnknown();
            return sum;
        }

        void move(int set, int from, int to) {
            for (int k = 0; k < MAX_PLAYERS; k++) {
                if ((set >> k & 1) == 1) {
                    teams[from].addDead(now, players[k].sharesLeft(now));
                    players[k].deal.bonus = 0;
                    players[k].team = to;
                    players[k].lastTeam = to;
                }
            }
        }

        void endYear(int midLevelAmount) {
            now++;
            for (int k = 0; k < MAX_PLAYERS; k++) {
                players[k].endYear(now);
            }
            refillMidLevel(midLevelAmount);
        }
    }

    /** The books as they were before each of the latest actions. */
    private static final class History {
        private final Books[] earlier = new Books[REMEMBERED];
        private int next = 0;
        int count = 0;

        History() {
            for (int k = 0; k < REMEMBERED; k++) {
                earlier[k] = new Books();
            }
        }

        void forget() {
            next = 0;
            count = 0;
        }

        void remember(Books books) {
            earlier[next].copyFrom(books);
            next = (next + 1) % REMEMBERED;
            count = Math.min(count + 1, REMEMBERED);
        }

        void restoreTo(Books books) {
            if (count == 0) {
                return;
            }
            next = (next + REMEMBERED - 1) % REMEMBERED;
            count--;
            books.copyFrom(earlier[next]);
        }
    }

    /** What each player of one team would bring and cost if released without stretching. */
    private static final class Releases {
        private final int[] numbers = new int[MAX_ROSTER];
        private final int[] gains = new int[MAX_ROSTER];
        private final int[] costs = new int[MAX_ROSTER];
        private int size = 0;

        void consider(Books books, int team) {
            size = 0;
            for (int k = 0; k < MAX_PLAYERS && size < MAX_ROSTER; k++) {
                if (books.playsFor(k, team)) {
                    numbers[size] = k;
                    gains[size] = books.players[k].gainIfReleased(books.now, false);
                    costs[size] = books.players[k].wholeReleaseCost(books.now);
                    size++;
                }
            }
        }

        /** The fewest players that bring what is needed are those with the greatest gains. */
        int fewest(int need) {
            int sum = 0;
            int used = 0;
            for (int count = 0; count <= size; count++) {
                if (sum >= need) {
                    return count;
                }
                int greatest = greatestGain(used);
                if (greatest == NONE) {
                    return -2;
                }
                used |= 1 << greatest;
                sum += gains[greatest];
            }
            return -2;
        }

        private int greatestGain(int used) {
            int found = NONE;
            for (int k = 0; k < size; k++) {
                if ((used >> k & 1) == 0 && gains[k] > 0 && (found == NONE || gains[k] > gains[found])) {
                    found = k;
                }
            }
            return found;
        }

        /** Places ascend as the numbers of the players do, so the first set found is the least as a number, too. */
        int cheapestSet(int need) {
            int wanted = fewest(need);
            if (wanted < 0) {
                return -2;
            }
            int best = NONE;
            int leastCost = 0;
            for (int places = 0; places < 1 << size; places++) {
                if (Integer.bitCount(places) == wanted && sumAt(gains, places) >= need
                        && (best == NONE || sumAt(costs, places) < leastCost)) {
                    best = places;
                    leastCost = sumAt(costs, places);
                }
            }
            return best == NONE ? -2 : numbersAt(best);
        }

        private int sumAt(int[] amounts, int places) {
            int sum = 0;
            for (int k = 0; k < size; k++) {
                if ((places >> k & 1) == 1) {
                    sum += amounts[k];
                }
            }
            return sum;
        }

        private int numbersAt(int places) {
            int set = 0;
            for (int k = 0; k < size; k++) {
                if ((places >> k & 1) == 1) {
                    set |= 1 << numbers[k];
                }
            }
            return set;
        }
    }

    /** Reads a league text. The first error ends the reading: nothing is taken behind it. */
    private static final class Reader {
        private static final int AT_END = 0;
        private static final int AT_WORD = 1;
        private static final int AT_NUMBER = 2;
        private static final int AT_SEMICOLON = 3;
        private static final int AT_NO_TOKEN = 4;

        private static final int WRONG_TOKEN = 1;
        private static final int WRONG_RANGE = 2;
        private static final int FIFTH_BRACKET = 3;
        private static final int PLACE_TAKEN = 4;

        private static final int MAX_DIGITS = 6;

        int errorCode = 0;
        int errorAt = NONE;
        int contracts = 0;
        private byte[] text = new byte[0];
        private int length = 0;
        private int end = 0;
        private int kind = AT_END;
        private int start = 0;
        private int value = 0;
        private int numberAt = 0;
        private final Deal deal = new Deal();

        boolean failed() {
            return errorCode != 0;
        }

        void readText(byte[] bytes, int size, Terms terms, Books books) {
            text = bytes;
            length = Math.min(size, bytes.length);
            end = 0;
            errorCode = 0;
            errorAt = NONE;
            contracts = 0;
            books.clear();
            findToken();
            readLeague(terms);
            readBrackets(terms);
            takeWord("teams");
            terms.teamCount = takeNumber(1, MAX_TEAMS);
            takeSemicolon();
            takeWord("players");
            terms.playerCount = takeNumber(1, MAX_PLAYERS);
            takeSemicolon();
            for (int k = 0; k <= length && !failed() && kind != AT_END; k++) {
                readContract(terms, books);
            }
            books.refillMidLevel(terms.midLevelAmount);
        }

        private void readLeague(Terms terms) {
            takeWord("league");
            int cap = takeNumber(1, MAX_LINE);
            int taxLine = takeNumber(1, MAX_LINE);
            int growth = takeNumber(0, 200);
            terms.growLines(cap, taxLine, growth);
            terms.midLevelAmount = takeNumber(0, MAX_AMOUNT);
            terms.minimumSalary = takeNumber(1, MAX_AMOUNT);
            takeSemicolon();
        }

        private void readBrackets(Terms terms) {
            terms.bracketCount = 0;
            for (int k = 0; k < MAX_BRACKETS && (k == 0 || isWord("bracket")); k++) {
                takeWord("bracket");
                int size = takeNumber(1, MAX_AMOUNT);
                int rate = takeNumber(0, 900);
                takeSemicolon();
                terms.addBracket(size, rate);
            }
            if (isWord("bracket")) {
                fail(FIFTH_BRACKET, start);
            }
        }

        private void readContract(Terms terms, Books books) {
            takeWord("contract");
            int player = takeNumber(0, terms.playerCount - 1);
            if (books.players[player].hasContract()) {
                fail(PLACE_TAKEN, numberAt);
            }
            int team = takeNumber(0, terms.teamCount - 1);
            if (Integer.bitCount(books.playersOf(team)) >= MAX_ROSTER) {
                fail(PLACE_TAKEN, numberAt);
            }
            int base = takeNumber(1, MAX_AMOUNT);
            int raise = takeNumber(0, MAX_RAISE);
            int years = takeNumber(1, MAX_LENGTH);
            int bonus = takeNumber(0, MAX_AMOUNT);
            int guaranteed = takeNumber(0, years);
            takeSemicolon();
            if (!failed()) {
                deal.agree(base, raise, years, bonus, guaranteed);
                books.players[player].begin(team, 0, deal);
                contracts++;
            }
        }

        private void fail(int code, int position) {
            if (!failed()) {
                errorCode = code;
                errorAt = position;
            }
        }

        private boolean isWord(String word) {
            if (failed() || kind != AT_WORD || end - start != word.length()) {
                return false;
            }
            for (int k = start; k < end; k++) {
                if (text[k] != word.charAt(k - start)) {
                    return false;
                }
            }
            return true;
        }

        private void takeWord(String word) {
            if (isWord(word)) {
                findToken();
            } else {
                fail(WRONG_TOKEN, start);
            }
        }

        private void takeSemicolon() {
            if (kind == AT_SEMICOLON) {
                findToken();
            } else {
                fail(WRONG_TOKEN, start);
            }
        }

        /** Returns a number of the range in every case, so that a failed reading can go on harmlessly. */
        private int takeNumber(int least, int greatest) {
            if (failed()) {
                return least;
            }
            if (kind != AT_NUMBER) {
                fail(WRONG_TOKEN, start);
                return least;
            }
            if (value < least || value > greatest) {
                fail(WRONG_RANGE, start);
                return least;
            }
            int number = value;
            numberAt = start;
            findToken();
            return number;
        }

        private void findToken() {
            start = end;
            while (start < length && (text[start] == ' ' || text[start] == '\n')) {
                start++;
            }
            end = start;
            if (start >= length) {
                kind = AT_END;
            } else if (isLetter(start)) {
                kind = AT_WORD;
                while (end < length && isLetter(end)) {
                    end++;
                }
            } else if (isDigit(start)) {
                findNumber();
            } else {
                kind = text[start] == ';' ? AT_SEMICOLON : AT_NO_TOKEN;
                end = start + 1;
            }
        }

        private void findNumber() {
            value = 0;
            while (end < length && isDigit(end)) {
                // A longer number is no token: its value is of no use and must not overflow.
                value = end - start < MAX_DIGITS ? value * 10 + (text[end] - '0') : 0;
                end++;
            }
            kind = end - start <= MAX_DIGITS ? AT_NUMBER : AT_NO_TOKEN;
        }

        private boolean isLetter(int position) {
            return text[position] >= 'a' && text[position] <= 'z';
        }

        private boolean isDigit(int position) {
            return text[position] >= '0' && text[position] <= '9';
        }
    }
}
