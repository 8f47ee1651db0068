/**
 * "6 TRADING" and promises 9 and 36 to 38: each sentence that names a boundary case. A check's name begins with the
 * section or promise that it is for. Each due number was reckoned by hand.
 */
public final class TradeEdgesTest {
    private static final Check CHECK = new Check();

    public static void main(String[] args) {
        emptySets();
        giftsBelowTheLine();
        giftsAboveTheLine();
        chargeAtTheCap();
        deadMoneyAtTheCap();
        comingSharesAtTheCap();
        chargeAtTheTaxLine();
        linesOfThePresentYear();
        whatCountsForTheTaxLine();
        limitBelowTheLine();
        limitAboveTheLine();
        salariesWithoutShares();
        bothTeamsMustMatch();
        wrongPlayers();
        setsOfManyPlayers();
        twelvePlayers();
        errorsInOrder();
        whatATradeDoes();
        tradeCodeTellsWhatTradeWouldDo();
        swaps();
        swapLimits();
        bestSwapIsTheLeast();
        bestSwapAfterTheTrade();
        CHECK.finish("TradeEdgesTest");
    }

    /** A league in which the cap is of no help to anybody who has a player. */
    private static SalaryCapLedger league(int cap, int taxLine, String contracts) {
        return Check.league("league " + cap + " " + taxLine + " 0 0 1;bracket 10 100;teams 3;players 24;" + contracts);
    }

    private static void code(String what, int due, SalaryCapLedger x, int players, int others) {
        CHECK.is("6 " + what, due, () -> x.tradeCode(0, players, 1, others));
        int otherDue = due == -5 ? -6 : due == -6 ? -5 : due;
        CHECK.is("6 " + what + ", told from the other team", otherDue, () -> x.tradeCode(1, others, 0, players));
    }

    private static void emptySets() {
        SalaryCapLedger x = league(900, 900, "contract 0 0 100 0 1 0 0;contract 1 1 100 0 1 0 0;");
        code("'not both': both sets empty", -2, x, 0, 0);
        code("'one of the two sets may be empty': the others", 0, x, 1, 0);
        code("'one of the two sets may be empty': the players", 0, x, 0, 2);
        code("no set empty", 0, x, 1, 2);
        CHECK.is("6: both sets empty and a team without players", -2, () -> x.tradeCode(1, 0, 2, 0));
        CHECK.is("6: to a team without players", 0, () -> x.tradeCode(2, 0, 1, 2));
        CHECK.is("P9: one set empty", 200, () -> x.trade(0, 0, 1, 2));
        CHECK.is("P9: the other team has nobody any more", 0, () -> x.roster(1));
        CHECK.is("P9: the first team has both", 3, () -> x.roster(0));
    }

    /** Limit of a team that gives nobody: 0 * 125 / 100 + 100. The giver gets nobody and matches whatever its charge is. */
    private static void giftsBelowTheLine() {
        code("a gift of 100 at a limit of 100", 0, league(1, 50, "contract 0 0 50 0 1 0 0;contract 1 1 100 0 1 0 0;"), 0, 2);
        code("a gift of 101 at a limit of 100", -5, league(1, 50, "contract 0 0 50 0 1 0 0;contract 1 1 101 0 1 0 0;"), 0, 2);
        code("a gift of two, 60 and 40", 0, league(1, 9, "contract 1 1 60 0 1 0 0;contract 2 1 40 0 1 0 0;"), 0, 6);
        code("a gift of two, 60 and 41", -5, league(1, 9, "contract 1 1 60 0 1 0 0;contract 2 1 41 0 1 0 0;"), 0, 6);
        code("'its charge after the trade is at most the cap': 101 at a cap of 101", 0, league(101, 1, "contract 1 1 101 0 1 0 0;"), 0, 2);
    }

    private static void giftsAboveTheLine() {
        code("a gift of 1 at a limit of 0", -5, league(1, 49, "contract 0 0 50 0 1 0 0;contract 1 1 1 0 1 0 0;"), 0, 2);
        code("a gift of 1 at the tax line", 0, league(1, 50, "contract 0 0 50 0 1 0 0;contract 1 1 1 0 1 0 0;"), 0, 2);
        code("a giver far above the line", 0, league(1, 9, "contract 1 1 5000 0 1 0 0;contract 2 1 90 0 1 0 0;"), 0, 4);
    }

    private static void chargeAtTheCap() {
        String contracts = "contract 0 0 100 0 1 0 0;contract 1 1 400 0 1 0 0;contract 2 0 50 0 1 0 0;";
        code("'at most the cap': the charge of 450 is the cap", 0, league(450, 1, contracts), 1, 2);
        code("'at most the cap': the charge of 450 is one above", -5, league(449, 1, contracts), 1, 2);
        code("'at most the cap': both teams", 0, league(450, 450, contracts), 1, 2);
    }

    private static void deadMoneyAtTheCap() {
        String contracts = "contract 0 0 100 0 3 20 0;contract 1 1 400 0 1 0 0;";
        code("the dead shares count for the cap: 420 of 420", 0, league(420, 1, contracts), 1, 2);
        code("the dead shares count for the cap: 420 of 419", -5, league(419, 1, contracts), 1, 2);
        SalaryCapLedger at = league(407, 1, "contract 3 0 9 0 2 7 0;contract 1 1 400 0 1 0 0;");
        at.release(3, false);
        code("dead money of before counts for the cap: 407 of 407", 0, at, 0, 2);
        SalaryCapLedger above = league(406, 1, "contract 3 0 9 0 2 7 0;contract 1 1 400 0 1 0 0;");
        above.release(3, false);
        code("dead money of before counts for the cap: 407 of 406", -5, above, 0, 2);
    }

    private static void comingSharesAtTheCap() {
        String contracts = "contract 0 0 100 0 1 0 0;contract 1 1 400 0 4 99 0;";
        code("the shares of those that come do not count for the cap", 0, league(400, 1, contracts), 1, 2);
        code("the salaries of those that come do", -5, league(399, 1, contracts), 1, 2);
    }

    /** At the tax line the limit is 100 * 125 / 100 + 100, above it 100 * 110 / 100. */
    private static void chargeAtTheTaxLine() {
        taxed("at the tax line, at the limit", 0, 150, 225);
        taxed("at the tax line, one above the limit", -5, 150, 226);
        taxed("one above the tax line, at the limit", 0, 149, 110);
        taxed("one above the tax line, one above the limit", -5, 149, 111);
        taxed("one below the tax line, at the limit", 0, 151, 225);
    }

    private static void taxed(String what, int due, int taxLine, int salary) {
        code("'if its charge before the trade is at most the tax line': " + what, due, league(1, taxLine,
                "contract 0 0 100 0 1 0 0;contract 2 0 50 0 1 0 0;contract 1 1 " + salary + " 0 1 0 0;"), 1, 2);
    }

    private static void linesOfThePresentYear() {
        String contracts = "contract 0 0 100 0 2 0 0;contract 2 0 10 0 2 0 0;contract 1 1 225 0 2 0 0;";
        SalaryCapLedger line = Check.league("league 1 100 100 0 1;bracket 1 1;teams 2;players 3;" + contracts);
        code("the tax line of year 0 is 100", -5, line, 1, 2);
        line.nextYear();
        code("the tax line of year 1 is 110", 0, line, 1, 2);
        SalaryCapLedger cap = Check.league("league 214 1 100 0 1;bracket 1 1;teams 2;players 3;" + contracts);
        code("the cap of year 0 is 214", -5, cap, 1, 2);
        cap.nextYear();
        code("the cap of year 1 is 235", 0, cap, 1, 2);
    }

    private static void whatCountsForTheTaxLine() {
        String coming = "contract 1 1 225 0 1 0 0;";
        code("the charge before has the shares: 100 and 10 of 110", 0, league(1, 110, "contract 0 0 100 0 3 29 0;" + coming), 1, 2);
        code("the charge before has the shares: 100 and 10 of 109", -5, league(1, 109, "contract 0 0 100 0 3 29 0;" + coming), 1, 2);
        SalaryCapLedger at = league(1, 107, "contract 0 0 100 0 1 0 0;contract 2 0 9 0 2 7 0;" + coming);
        at.release(2, false);
        code("the charge before has the dead money: 107 of 107", 0, at, 1, 2);
        SalaryCapLedger above = league(1, 106, "contract 0 0 100 0 1 0 0;contract 2 0 9 0 2 7 0;" + coming);
        above.release(2, false);
        code("the charge before has the dead money: 107 of 106", -5, above, 1, 2);
    }

    private static void limitBelowTheLine() {
        limits("O * 125 / 100 + 100", 99999, 1, 101);
        limits("O * 125 / 100 + 100", 99999, 3, 103);
        limits("O * 125 / 100 + 100", 99999, 4, 105);
        limits("O * 125 / 100 + 100", 99999, 7, 108);
        limits("O * 125 / 100 + 100", 99999, 79919, 99998);
    }

    private static void limitAboveTheLine() {
        limits("O * 110 / 100", 1, 2, 2);
        limits("O * 110 / 100", 1, 9, 9);
        limits("O * 110 / 100", 1, 10, 11);
        limits("O * 110 / 100", 1, 90907, 99997);
    }

    private static void limits(String what, int taxLine, int out, int limit) {
        for (int above = 0; above <= 1; above++) {
            String contracts = "contract 0 0 " + out + " 0 1 0 0;contract 1 1 " + (limit + above) + " 0 1 0 0;"
                    + "contract 2 1 99999 0 1 0 0;";
            code("'" + what + "', " + out + " for " + (limit + above), above == 0 ? 0 : -5, league(1, taxLine, contracts), 1, 2);
        }
    }

    private static void salariesWithoutShares() {
        code("'(without shares)': O is 100 and the limit 225", 0, league(1, 999, "contract 0 0 100 0 1 80 0;contract 1 1 225 0 1 0 0;"), 1, 2);
        code("'(without shares)': O is 100, not 180", -5, league(1, 999, "contract 0 0 100 0 1 80 0;contract 1 1 226 0 1 0 0;"), 1, 2);
        code("'(without shares)': I is 225, not 305", 0, league(1, 999, "contract 0 0 100 0 1 0 0;contract 1 1 225 0 1 80 0;"), 1, 2);
        SalaryCapLedger x = league(1, 999, "contract 0 0 100 20 5 0 0;contract 1 1 250 0 5 0 0;");
        code("'the present salaries': 100 in year 0", -5, x, 1, 2);
        x.nextYear();
        code("'the present salaries': 120 in year 1", 0, x, 1, 2);
    }

    private static void bothTeamsMustMatch() {
        String contracts = "contract 0 0 100 0 1 0 0;contract 1 1 226 0 1 0 0;contract 2 0 400 0 1 0 0;contract 3 1 90 0 1 0 0;";
        SalaryCapLedger x = league(1, 9999, contracts);
        CHECK.is("6, P9: -5 for the first team", -5, () -> x.tradeCode(0, 1, 1, 2));
        CHECK.is("6, P9: -6 for the other team", -6, () -> x.tradeCode(1, 2, 0, 1));
        CHECK.is("6, P9: 400 for 90, -6", -6, () -> x.tradeCode(0, 4, 1, 8));
        CHECK.is("6, P9: 226 + 90 for 400, the limit is 382 and 100", -6, () -> x.tradeCode(0, 5, 1, 8));
        CHECK.is("6, P9: both match", 0, () -> x.tradeCode(0, 4, 1, 10));
        SalaryCapLedger y = Check.league("league 1 1 0 0 1;bracket 1 1;teams 2;players 4;contract 0 0 9 0 1 0 0;contract 1 1 9 0 1 0 0;");
        CHECK.is("6: 9 for 9 above all lines", 0, () -> y.tradeCode(0, 1, 1, 2));
    }

    private static void wrongPlayers() {
        SalaryCapLedger x = league(9999, 9999, "contract 0 0 1 0 1 0 0;contract 1 1 1 0 2 0 0;contract 23 0 1 0 1 0 0;");
        code("P9 -3: of the other team", -3, x, 2, 0);
        code("P9 -3: both of the first team", -3, x, 1, 1);
        code("P9 -3: without a contract", -3, x, 4, 0);
        code("P9 -3: without a contract, the others", -3, x, 0, 4);
        code("P9 -3: one of two", -3, x, 3, 0);
        code("P9 -3: the teams exchanged", -3, x, 2, 1);
        code("'bit k stands for player k': player 23", 0, x, 1 << 23, 2);
        code("P9 -3: all players", -3, x, 0xffffff, 0);
        CHECK.is("P9 -3: of a third team", -3, () -> x.tradeCode(2, 1, 1, 2));
        x.nextYear();
        code("P9 -3: a contract that is over", -3, x, 1, 2);
        x.release(1, false);
        code("P9 -3: a player who was released", -3, x, 0, 2);
    }

    private static void setsOfManyPlayers() {
        SalaryCapLedger x = league(1, 9999, "contract 0 0 40 0 1 0 0;contract 1 0 60 0 1 0 0;contract 2 1 100 0 1 0 0;"
                + "contract 3 1 125 0 1 0 0;contract 4 1 1 0 1 0 0;");
        code("the sums of two and two: 225 of 225", 0, x, 3, 12);
        code("the sums of two and three: 226 of 225", -5, x, 3, 28);
        code("the sums of one and two: 225 of 150", -5, x, 1, 12);
        code("the sums of all and one", 0, x, 3, 8);
    }

    private static SalaryCapLedger fullTeam(int ofOther) {
        StringBuilder text = new StringBuilder();
        for (int k = 0; k < 12 + ofOther; k++) {
            text.append("contract ").append(k).append(k < 12 ? " 0" : " 1").append(" 1 0 1 0 0;");
        }
        return league(9999, 9999, text.toString());
    }

    private static void twelvePlayers() {
        SalaryCapLedger x = fullTeam(3);
        code("P9 -4: a thirteenth player", -4, x, 0, 1 << 12);
        code("P9 -4: three for two", -4, x, 3, 7 << 12);
        code("P9: twelve still, two for two", 0, x, 3, 3 << 12);
        code("P9: twelve still, one for one", 0, x, 1, 1 << 12);
        code("P9: eleven, two for one", 0, x, 3, 1 << 12);
        code("P9: the other team gets twelve", 0, x, 4095, 7 << 12);
        code("P9 -4: the other team would have thirteen", -4, x, 2047, 1 << 12);
        code("P9: the other team would have twelve", 0, x, 1023, 1 << 12);
        CHECK.is("P9: all twelve to a team without players", 0, () -> x.tradeCode(0, 4095, 2, 0));
        SalaryCapLedger both = fullTeam(12);
        code("P9: twelve for twelve", 0, both, 4095, 4095 << 12);
        code("P9 -4: one for none", -4, both, 1, 0);
        CHECK.is("P9: twelve for twelve", 24, () -> both.trade(0, 4095, 1, 4095 << 12));
        CHECK.is("P9: the rosters are exchanged", 4095 << 12, () -> both.roster(0));
    }

    private static void errorsInOrder() {
        StringBuilder text = new StringBuilder("contract 12 1 9000 0 1 0 0;contract 13 1 9 0 1 0 0;");
        for (int k = 0; k < 12; k++) {
            text.append("contract ").append(k).append(" 0 1 0 1 0 0;");
        }
        SalaryCapLedger x = league(1, 1, text.toString());
        CHECK.illegal("P9: the same team before -2", () -> x.trade(0, 0, 0, 0));
        CHECK.illegal("P9: a player who does not exist before -3", () -> x.trade(0, 1 << 12, 1, 1 << 24));
        CHECK.is("P9: -3 before -4", -3, () -> x.trade(0, 0, 1, 3 << 12 | 1 << 14));
        CHECK.is("P9: -4 before -5", -4, () -> x.trade(0, 0, 1, 1 << 12));
        CHECK.is("P9: -4 before -6", -4, () -> x.trade(1, 1 << 12, 0, 0));
        CHECK.is("P9: -5", -5, () -> x.trade(0, 1, 1, 1 << 12));
        CHECK.is("P9: -6", -6, () -> x.trade(1, 1 << 12, 0, 1));
        SalaryCapLedger both = league(1, 1, "contract 0 0 100 0 1 30 0;contract 1 1 111 0 1 30 0;contract 2 0 20 0 1 0 0;");
        CHECK.is("P9: -5 alone, 111 for 100", -5, () -> both.trade(0, 1, 1, 2));
        CHECK.is("P9: -6 alone, 120 for 111 is allowed", 0, () -> both.tradeCode(0, 5, 1, 2));
        CHECK.is("P9: nothing was done", -2, () -> both.undo());
        SalaryCapLedger mutual = Check.league("league 1 50 0 0 1;bracket 1 1;teams 2;players 2;contract 0 0 5 0 1 0 0;contract 1 1 9 0 1 0 0;");
        CHECK.is("P9: no error", 14, () -> mutual.trade(0, 1, 1, 2));
    }

    private static void whatATradeDoes() {
        SalaryCapLedger x = league(9999, 9999, "contract 0 0 100 10 3 20 2;contract 1 1 50 0 2 7 1;contract 2 1 60 0 2 5 0;");
        x.nextYear();
        CHECK.is("P9 'the sum of the charges of both teams afterwards'", 110 + 50 + 60 + 13 + 3 + 2, () -> x.trade(0, 1, 1, 6));
        CHECK.is("6 'all shares from this year on become dead money of the former team'", 13, () -> x.deadMoney(0, 0));
        CHECK.is("6: of both that left the other team", 5, () -> x.deadMoney(1, 0));
        CHECK.is("6 'in the present year': none in the next one", 0, () -> x.deadMoney(0, 1) + x.deadMoney(1, 1));
        CHECK.is("6 'the contract belongs to the other team then'", 6, () -> x.roster(0));
        CHECK.is("6: the player that left", 1, () -> x.roster(1));
        CHECK.is("6: its year number goes on", 1, () -> x.playerValue(0, 3));
        CHECK.is("6: its years go on", 2, () -> x.playerValue(0, 4));
        CHECK.is("6: its guaranteed years stay", 2, () -> x.playerValue(0, 5));
        CHECK.is("6: its salary of the next year", 120, () -> x.salary(0, 1));
        CHECK.is("6: the charge of the next year", 120, () -> x.charge(1, 1));
        CHECK.is("6: no charge of the next year", 0, () -> x.charge(0, 1));
        CHECK.is("4: the tenure goes on", 1, () -> x.playerValue(0, 2));
        CHECK.is("4: the last team is the new one", 1, () -> x.playerValue(0, 1));
        CHECK.is("P40: undone", 1, () -> x.undo());
        CHECK.is("P40: the dead money is gone", 0, () -> x.deadMoney(0, 0));
        CHECK.is("P40: the shares are back", 7, () -> x.share(0, 0));
        CHECK.is("P40: the shares of later years are back", 6, () -> x.share(0, 1));
    }

    private static SalaryCapLedger varied() {
        return league(330, 250, "contract 0 0 100 0 2 40 0;contract 1 0 60 0 1 0 0;contract 2 0 90 0 1 9 0;"
                + "contract 3 1 120 0 1 0 0;contract 4 1 30 0 3 60 0;contract 5 1 200 0 1 0 0;");
    }

    private static void tradeCodeTellsWhatTradeWouldDo() {
        SalaryCapLedger told = varied();
        for (int set = 0; set < 64; set++) {
            int players = set % 8;
            int others = set / 8 << 3;
            SalaryCapLedger done = varied();
            int answer = done.trade(0, players, 1, others);
            CHECK.is("P36 'Tells what trade() would do'", Math.min(answer, 0), () -> told.tradeCode(0, players, 1, others));
            if (answer >= 0) {
                CHECK.is("P9: the sum of the charges", answer, () -> done.charge(0, 0) + done.charge(1, 0));
            }
        }
        CHECK.is("P36: nobody was traded", 7, () -> told.roster(0));
    }

    private static void swaps() {
        SalaryCapLedger x = varied();
        CHECK.is("P37: as many as trade() allows", swapsDone(0, 1), () -> x.swapCount(0, 1));
        CHECK.is("P37: told from the other team", swapsDone(0, 1), () -> x.swapCount(1, 0));
        CHECK.is("P38: the best of them", bestDone(0, 1), () -> x.bestSwap(0, 1));
        CHECK.is("P38: told from the other team", bestDone(1, 0), () -> x.bestSwap(1, 0));
        CHECK.is("P37: a team without players", 0, () -> x.swapCount(0, 2));
        CHECK.is("P37: of a team without players", 0, () -> x.swapCount(2, 0));
        CHECK.is("P38 '-2 if there is none': a team without players", -2, () -> x.bestSwap(0, 2));
        CHECK.is("P38 '-2 if there is none': of a team without players", -2, () -> x.bestSwap(2, 0));
        SalaryCapLedger most = fullTeam(12);
        CHECK.is("P37: twelve times twelve", 144, () -> most.swapCount(0, 1));
        CHECK.is("P38: 32 * 0 + 12", 12, () -> most.bestSwap(0, 1));
        CHECK.is("P38: 32 * 12 + 0", 384, () -> most.bestSwap(1, 0));
    }

    private static int swapsDone(int team, int other) {
        int count = 0;
        for (int pair = 0; pair < 36; pair++) {
            count += varied().trade(team, 1 << pair / 6, other, 1 << pair % 6) >= 0 ? 1 : 0;
        }
        return count;
    }

    private static int bestDone(int team, int other) {
        int best = -2;
        long least = Long.MAX_VALUE;
        for (int pair = 0; pair < 36; pair++) {
            SalaryCapLedger x = varied();
            if (x.trade(team, 1 << pair / 6, other, 1 << pair % 6) >= 0 && x.tax(team) + x.tax(other) < least) {
                least = x.tax(team) + x.tax(other);
                best = 32 * (pair / 6) + pair % 6;
            }
        }
        return best;
    }

    /** Above the tax line 100 for 110 is at the limit, 100 for 111 one above it. */
    private static void swapLimits() {
        for (int above = 0; above <= 1; above++) {
            SalaryCapLedger x = league(1, 1, "contract 3 0 100 0 1 0 0;contract 8 1 " + (110 + above) + " 0 1 0 0;");
            CHECK.is("P37: a limit met, or missed by one", 1 - above, () -> x.swapCount(0, 1));
            CHECK.is("P37: a limit met, or missed by one, the other team", 1 - above, () -> x.swapCount(1, 0));
            CHECK.is("P38: a limit met, or missed by one", above == 0 ? 32 * 3 + 8 : -2, () -> x.bestSwap(0, 1));
            CHECK.is("P38: a limit met, or missed by one, the other team", above == 0 ? 32 * 8 + 3 : -2, () -> x.bestSwap(1, 0));
        }
    }

    private static void bestSwapIsTheLeast() {
        SalaryCapLedger equal = league(1, 1, "contract 23 0 50 0 1 0 0;contract 22 0 50 0 1 0 0;"
                + "contract 21 1 50 0 1 0 0;contract 20 1 50 0 1 0 0;");
        CHECK.is("P37: four equal swaps", 4, () -> equal.swapCount(0, 1));
        CHECK.is("P38 'of several the least'", 32 * 22 + 20, () -> equal.bestSwap(0, 1));
        CHECK.is("P38 'of several the least', the other team", 32 * 20 + 22, () -> equal.bestSwap(1, 0));
        SalaryCapLedger none = league(999, 999, "contract 5 0 50 0 1 0 0;contract 4 0 10 0 1 0 0;contract 2 1 50 0 1 0 0;contract 9 1 60 0 1 0 0;");
        CHECK.is("P38: no taxes at all", 32 * 4 + 2, () -> none.bestSwap(0, 1));
    }

    /** Taxes at 100 percent above the tax line 100; the dead shares stay where they are and are taxed, too. */
    private static void bestSwapAfterTheTrade() {
        SalaryCapLedger x = league(999, 100, "contract 0 0 20 0 1 0 0;contract 1 0 65 0 1 0 0;contract 4 0 45 0 1 0 0;"
                + "contract 2 1 10 0 1 0 0;contract 3 1 40 0 1 0 0;");
        CHECK.is("P38: the sum of the taxes is 30 without a trade", 30, () -> x.tax(0) + x.tax(1));
        CHECK.is("P38: 45 for 10 leaves 95 and 85, no tax", 32 * 4 + 2, () -> x.bestSwap(0, 1));
        SalaryCapLedger y = league(999, 100, "contract 0 0 70 0 5 100 0;contract 1 0 60 0 1 0 0;contract 2 1 50 0 1 0 0;");
        CHECK.is("P38: a swap of player 0 would make 100 of dead money", 32 * 1 + 2, () -> y.bestSwap(0, 1));
        SalaryCapLedger z = Check.league("league 999 100 0 0 1;bracket 10 100;bracket 1 300;teams 2;players 4;"
                + "contract 0 0 90 0 1 0 0;contract 1 0 50 0 1 0 0;contract 2 1 40 0 1 0 0;contract 3 1 80 0 1 0 0;");
        CHECK.is("P38: 30 and 30 above the line cost 70 each, 70 alone cost 190", 32 * 0 + 3, () -> z.bestSwap(0, 1));
    }
}
