import java.util.NoSuchElementException;

/**
 * Promises 11 to 17 and 21 to 28: each sentence that names a boundary case. A check's name begins with the promise that
 * it is for. Each due number was reckoned by hand.
 */
public final class QueryEdgesTest {
    private static final Check CHECK = new Check();
    private static final int NONE = SalaryCapLedger.NONE;
    private static final String WIDE = "league 1000 2000 10 300 40;bracket 10 100;teams 4;players 24;";

    public static void main(String[] args) {
        year();
        linesAhead();
        offer();
        chargesAhead();
        deadMoneyAhead();
        room();
        midLevel();
        roster();
        rankOfEqualTeams();
        rankOfDifferentTeams();
        rankPlaces();
        playerWithoutContract();
        playerWithContract();
        playerOfPassingYears();
        salariesAhead();
        playerRank();
        playerRankCountsShares();
        meanSalary();
        CHECK.finish("QueryEdgesTest");
    }

    private static void year() {
        SalaryCapLedger x = Check.league(WIDE);
        for (int k = 0; k <= 15; k++) {
            int now = k;
            CHECK.is("P11 'Returns 0 to 15'", now, () -> x.year());
            x.nextYear();
        }
        x.undo();
        CHECK.is("P11: a year undone", 14, () -> x.year());
    }

    /** The growth is 1 percent of 1000 and 2000, truncated each year. */
    private static void linesAhead() {
        int[] caps = {1000, 1010, 1020, 1030, 1040, 1050, 1060, 1070, 1080, 1090, 1100, 1111};
        int[] lines = {2000, 2020, 2040, 2060, 2080, 2100, 2121, 2142, 2163, 2184, 2205, 2227};
        SalaryCapLedger x = Check.league(WIDE);
        for (int k = 0; k < 12; k++) {
            int ahead = k;
            CHECK.is("P12 'ahead: 0 to 11 years': " + k, caps[k], () -> x.cap(ahead));
            CHECK.is("P13 'ahead: 0 to 11 years': " + k, lines[k], () -> x.taxLine(ahead));
        }
        CHECK.illegal("P12 'ahead: 0 to 11 years': 12", () -> x.cap(12));
        CHECK.illegal("P12 'ahead: 0 to 11 years': -1", () -> x.cap(-1));
        CHECK.illegal("P13 'ahead: 0 to 11 years': 12", () -> x.taxLine(12));
        CHECK.illegal("P13 'ahead: 0 to 11 years': -1", () -> x.taxLine(-1));
        x.nextYear();
        CHECK.is("8 'the number of years ahead of the present one': P12", caps[11], () -> x.cap(10));
        CHECK.is("8 'the number of years ahead of the present one': P13", lines[11], () -> x.taxLine(10));
    }

    private static void offer() {
        SalaryCapLedger x = Check.league(WIDE);
        x.makeOffer(11, 12, 5, 14, 3);
        int[] terms = {11, 12, 5, 14, 3};
        for (int k = 0; k < 5; k++) {
            int what = k;
            CHECK.is("P14: term " + k, terms[k], () -> x.offer(what));
        }
        CHECK.illegal("P14: term 5", () -> x.offer(5));
        CHECK.illegal("P14: term -1", () -> x.offer(-1));
        CHECK.illegal("P6: a refused offer", () -> x.makeOffer(21, 21, 4, 24, 2));
        CHECK.is("P14: the offer of before", 11, () -> x.offer(0));
        x.undo();
        CHECK.is("P14: the first offer", 1, () -> x.offer(0));
    }

    private static void chargesAhead() {
        SalaryCapLedger x = Check.league(WIDE + "contract 23 3 100 10 5 13 5;");
        int[] due = {103, 113, 123, 132, 142, 0, 0, 0, 0, 0, 0, 0};
        for (int k = 0; k < 12; k++) {
            int ahead = k;
            CHECK.is("P15 'ahead: 0 to 11 years': " + k, due[k], () -> x.charge(3, ahead));
            CHECK.is("P15: a team without players, " + k, 0, () -> x.charge(2, ahead));
        }
        CHECK.illegal("P15 'ahead: 0 to 11 years': 12", () -> x.charge(3, 12));
        CHECK.illegal("P15 'ahead: 0 to 11 years': -1", () -> x.charge(3, -1));
        CHECK.illegal("P15: team 4 of 4", () -> x.charge(4, 0));
    }

    private static void deadMoneyAhead() {
        SalaryCapLedger x = Check.league(WIDE + "contract 23 3 100 10 5 13 5;");
        CHECK.is("P16: no dead money of a contract", 0, () -> x.deadMoney(3, 0));
        x.release(23, true);
        int[] due = {68, 55, 55, 55, 55, 55, 54, 54, 54, 54, 54, 0};
        for (int k = 0; k < 12; k++) {
            int ahead = k;
            CHECK.is("P16 'ahead: 0 to 11 years': " + k, due[k], () -> x.deadMoney(3, ahead));
            CHECK.is("P16: another team, " + k, 0, () -> x.deadMoney(0, ahead));
        }
        CHECK.illegal("P16 'ahead: 0 to 11 years': 12", () -> x.deadMoney(3, 12));
        CHECK.illegal("P16 'ahead: 0 to 11 years': -1", () -> x.deadMoney(3, -1));
    }

    private static void room() {
        SalaryCapLedger x = Check.league(WIDE + "contract 0 0 999 0 2 0 0;contract 1 1 1000 0 2 0 0;contract 2 2 1001 0 2 0 0;");
        CHECK.is("P17: room 1", 1, () -> x.room(0));
        CHECK.is("P17: room 0", 0, () -> x.room(1));
        CHECK.is("P17 'which can be negative': -1", -1, () -> x.room(2));
        CHECK.is("P17: the whole cap", 1000, () -> x.room(3));
        x.nextYear();
        CHECK.is("P17: of the present year, 1010 - 1001", 9, () -> x.room(2));
        SalaryCapLedger deep = Check.league("league 1 1 0 0 1;bracket 1 1;teams 1;players 2;contract 0 0 99999 0 1 99999 0;");
        CHECK.is("P17 'which can be negative': far below 0", 1 - 199998, () -> deep.room(0));
        SalaryCapLedger two = Check.league("league 98 1 0 0 1;bracket 1 1;teams 1;players 2;contract 0 0 100 0 1 0 0;");
        CHECK.is("8 'unless it says that results can be negative': room -2", -2, () -> two.room(0));
    }

    private static void midLevel() {
        SalaryCapLedger x = Check.league(WIDE);
        CHECK.is("P21: the whole amount", 300, () -> x.midLevel(3));
        x.makeOffer(299, 0, 1, 0, 0);
        x.sign(3, 0, 1);
        CHECK.is("P21 'what is left': 1", 1, () -> x.midLevel(3));
        x.makeOffer(1, 0, 1, 0, 0);
        x.sign(3, 1, 1);
        CHECK.is("P21 'what is left': 0", 0, () -> x.midLevel(3));
        CHECK.is("P21: another team", 300, () -> x.midLevel(0));
        x.undo();
        CHECK.is("P21: undone", 1, () -> x.midLevel(3));
    }

    private static void roster() {
        SalaryCapLedger x = Check.league(WIDE + "contract 0 0 1 0 1 0 0;contract 23 0 1 0 2 0 0;contract 11 3 1 0 1 0 0;");
        CHECK.is("P22, 8 'bit k stands for player k': 0 and 23", 1 | 1 << 23, () -> x.roster(0));
        CHECK.is("P22: nobody", 0, () -> x.roster(1));
        CHECK.is("P22: one", 1 << 11, () -> x.roster(3));
        x.nextYear();
        CHECK.is("P22 'with a contract': not those whose contract is over", 1 << 23, () -> x.roster(0));
        x.release(23, false);
        CHECK.is("P22 'with a contract': not those who were released", 0, () -> x.roster(0));
    }

    private static void ranking(SalaryCapLedger x, String what, int by, int... due) {
        for (int k = 0; k < due.length; k++) {
            int place = k;
            CHECK.is("P23 " + what + ", by " + by + ", place " + k, due[k], () -> x.teamRank(by, place));
        }
        CHECK.refuses("P23 'if there are not so many teams', by " + by, NoSuchElementException.class,
                () -> x.teamRank(by, due.length));
    }

    private static void rankOfEqualTeams() {
        SalaryCapLedger four = Check.league(WIDE);
        SalaryCapLedger one = Check.league("league 1 1 0 0 1;bracket 1 1;teams 1;players 1;");
        for (int by = 0; by < 5; by++) {
            ranking(four, "'teams with the same value by ascending number'", by, 0, 1, 2, 3);
            ranking(one, "one team", by, 0);
        }
        SalaryCapLedger two = Check.league(WIDE + "contract 0 1 50 0 1 0 0;contract 1 3 50 0 1 0 0;");
        ranking(two, "equal teams among others", 0, 1, 3, 0, 2);
        ranking(two, "equal teams among others", 1, 0, 2, 1, 3);
        ranking(two, "equal teams among others", 4, 1, 3, 0, 2);
    }

    /** Each of the five values ranks the four teams in another order. */
    private static void rankOfDifferentTeams() {
        SalaryCapLedger x = Check.league("league 1000 100 0 0 1;bracket 10 100;teams 4;players 10;"
                + "contract 0 0 100 0 2 0 2;contract 1 1 101 0 1 0 0;contract 2 2 40 0 1 0 1;contract 3 2 40 0 1 0 0;"
                + "contract 4 2 39 0 1 0 0;contract 5 3 50 0 1 0 0;contract 6 3 52 0 1 0 0;contract 7 0 3 0 1 7 0;contract 8 1 1 0 1 0 0;");
        x.release(7, false);
        x.release(2, false);
        x.release(8, true);
        ranking(x, "charge 107, 101, 119, 102", 0, 2, 0, 3, 1);
        ranking(x, "room, the least charge first", 1, 1, 3, 0, 2);
        ranking(x, "dead money 7, 0, 40, 0", 2, 2, 0, 1, 3);
        ranking(x, "tax 7, 1, 19, 2", 3, 2, 0, 3, 1);
        ranking(x, "players 1, 1, 2, 2", 4, 2, 3, 0, 1);
        x.nextYear();
        ranking(x, "of the present year: charge 100 of team 0 alone", 0, 0, 1, 2, 3);
        ranking(x, "of the present year: room", 1, 1, 2, 3, 0);
        ranking(x, "of the present year: no dead money", 2, 0, 1, 2, 3);
        ranking(x, "of the present year: no tax", 3, 0, 1, 2, 3);
        ranking(x, "of the present year: players", 4, 0, 1, 2, 3);
        SalaryCapLedger tax = Check.league("league 1 100 0 0 1;bracket 5 0;bracket 5 900;teams 3;players 3;"
                + "contract 0 0 104 0 1 0 0;contract 1 1 105 0 1 0 0;contract 2 2 106 0 1 0 0;");
        ranking(tax, "tax 0, 0, 9, whatever the charge is", 3, 2, 0, 1);
        ranking(tax, "charge", 0, 2, 1, 0);
    }

    private static void rankPlaces() {
        SalaryCapLedger x = Check.league(WIDE);
        CHECK.refuses("P23: the greatest int", NoSuchElementException.class, () -> x.teamRank(0, Integer.MAX_VALUE));
        CHECK.illegal("P23 'place is negative'", () -> x.teamRank(0, -1));
        CHECK.illegal("P23 'place is negative', the least int", () -> x.teamRank(4, Integer.MIN_VALUE));
        CHECK.illegal("P23 'what is not 0 to 4': 5", () -> x.teamRank(5, 0));
        CHECK.illegal("P23 'what is not 0 to 4': -1", () -> x.teamRank(-1, 0));
        CHECK.illegal("P23: out of range before no such team", () -> x.teamRank(5, 4));
        CHECK.refuses("P27: nobody", NoSuchElementException.class, () -> x.playerRank(0));
        CHECK.refuses("P27: the greatest int", NoSuchElementException.class, () -> x.playerRank(Integer.MAX_VALUE));
        CHECK.illegal("P27 'place is negative'", () -> x.playerRank(-1));
        CHECK.illegal("P27 'place is negative', the least int", () -> x.playerRank(Integer.MIN_VALUE));
    }

    private static void values(String what, SalaryCapLedger x, int player, int... due) {
        for (int k = 0; k < due.length; k++) {
            int which = k;
            CHECK.is("P24 " + what + ", value " + k, due[k], () -> x.playerValue(player, which));
        }
        CHECK.illegal("P24 " + what + ", value 7", () -> x.playerValue(player, 7));
        CHECK.illegal("P24 " + what + ", value -1", () -> x.playerValue(player, -1));
    }

    private static void playerWithoutContract() {
        SalaryCapLedger x = Check.league(WIDE + "contract 0 3 50 0 1 9 1;contract 1 3 50 0 3 9 1;");
        values("'NONE for a team that there is not', '-2 for 3 to 6'", x, 23, NONE, NONE, 0, -2, -2, -2, -2);
        x.nextYear();
        values("a contract that is over, the last team stays", x, 0, NONE, 3, 1, -2, -2, -2, -2);
        x.release(1, false);
        values("a player who was released", x, 1, NONE, NONE, 0, -2, -2, -2, -2);
    }

    private static void playerWithContract() {
        SalaryCapLedger x = Check.league(WIDE + "contract 0 0 50 0 1 0 0;contract 1 3 99999 20 5 99999 5;contract 2 1 1 0 5 2 0;");
        values("the least of all", x, 0, 0, 0, 0, 0, 1, 0, 0);
        values("the greatest of all", x, 1, 3, 3, 0, 0, 5, 5, 99999);
        values("no guaranteed year", x, 2, 1, 1, 0, 0, 5, 0, 2);
    }

    private static void playerOfPassingYears() {
        SalaryCapLedger x = Check.league(WIDE + "contract 4 2 50 10 5 13 3;");
        int[] shares = {13, 10, 7, 4, 2};
        for (int k = 0; k < 5; k++) {
            values("in year " + k, x, 4, 2, 2, k, k, 5 - k, 3, shares[k]);
            x.nextYear();
        }
        values("in year 5", x, 4, NONE, 2, 5, -2, -2, -2, -2);
    }

    private static void salariesAhead() {
        SalaryCapLedger x = Check.league(WIDE + "contract 4 2 50 10 5 13 3;");
        int[] salaries = {50, 55, 60, 65, 70, 0, 0, 0, 0, 0, 0, 0};
        int[] shares = {3, 3, 3, 2, 2, 0, 0, 0, 0, 0, 0, 0};
        for (int year = 0; year < 6; year++) {
            for (int k = 0; k < 12; k++) {
                int ahead = k;
                int then = Math.min(11, year + k);
                CHECK.is("P25 'in that year; 0 if the player has no contract in it': " + (year + k), salaries[then], () -> x.salary(4, ahead));
                CHECK.is("P26 'in that year; 0 if there is none': " + (year + k), shares[then], () -> x.share(4, ahead));
                CHECK.is("P25: a player without a contract", 0, () -> x.salary(5, ahead));
                CHECK.is("P26: a player without a contract", 0, () -> x.share(5, ahead));
            }
            x.nextYear();
        }
        CHECK.illegal("P25 'ahead: 0 to 11 years': 12", () -> x.salary(4, 12));
        CHECK.illegal("P25 'ahead: 0 to 11 years': -1", () -> x.salary(4, -1));
        CHECK.illegal("P26 'ahead: 0 to 11 years': 12", () -> x.share(4, 12));
        CHECK.illegal("P26 'ahead: 0 to 11 years': -1", () -> x.share(4, -1));
        CHECK.illegal("P25: out of range without a contract", () -> x.salary(5, 12));
        CHECK.illegal("P26: out of range without a contract", () -> x.share(5, 12));
    }

    private static void places(SalaryCapLedger x, String what, int... due) {
        for (int k = 0; k < due.length; k++) {
            int place = k;
            CHECK.is("P27 " + what + ", place " + k, due[k], () -> x.playerRank(place));
        }
        CHECK.refuses("P27 'if there are not so many such players': " + what, NoSuchElementException.class,
                () -> x.playerRank(due.length));
    }

    private static void playerRank() {
        SalaryCapLedger x = Check.league(WIDE + "contract 23 0 50 0 1 0 0;contract 0 3 50 0 2 0 0;contract 7 1 51 0 1 0 0;"
                + "contract 9 2 49 20 2 0 0;contract 3 2 50 0 1 0 0;");
        places(x, "'players with the same sum by ascending number'", 7, 0, 3, 23, 9);
        x.nextYear();
        places(x, "'of the present year', 'with a contract'", 9, 0);
        x.release(9, false);
        places(x, "one", 0);
        x.release(0, false);
        places(x, "nobody");
        StringBuilder all = new StringBuilder("league 1 1 0 0 1;bracket 1 1;teams 2;players 24;");
        for (int k = 0; k < 24; k++) {
            all.append("contract ").append(k).append(k < 12 ? " 0 " : " 1 ").append(10 + k).append(" 0 1 0 0;");
        }
        places(Check.league(all.toString()), "all of 24", 23, 22, 21, 20, 19, 18, 17, 16, 15, 14, 13, 12, 11, 10, 9, 8,
                7, 6, 5, 4, 3, 2, 1, 0);
    }

    private static void playerRankCountsShares() {
        SalaryCapLedger x = Check.league(WIDE + "contract 0 0 50 0 2 0 0;contract 1 0 40 0 2 21 0;contract 2 0 40 0 2 18 0;");
        places(x, "'by salary + share': 50, 51, 49", 1, 0, 2);
        x.nextYear();
        places(x, "'by salary + share of the present year': 50, 50, 49", 0, 1, 2);
        x.trade(0, 2, 1, 0);
        places(x, "a traded player has no share: 50, 40, 49", 0, 2, 1);
    }

    private static void meanSalary() {
        SalaryCapLedger x = Check.league(WIDE + "contract 0 0 1 0 1 0 0;contract 1 0 1 0 1 99 0;contract 2 0 2 0 2 0 0;"
                + "contract 3 1 99999 20 5 99999 0;");
        CHECK.is("P28 'both converted to double': 4 / 3", 4.0 / 3.0, () -> x.meanSalary(0));
        CHECK.is("P28 '(without shares)': one player", 99999, () -> x.meanSalary(1));
        CHECK.refuses("P28 'if the team has no players'", ArithmeticException.class, () -> x.meanSalary(2));
        CHECK.illegal("P28: out of range before no players", () -> x.meanSalary(4));
        x.release(3, false);
        CHECK.refuses("P28: nobody any more, dead money alone", ArithmeticException.class, () -> x.meanSalary(1));
        x.nextYear();
        CHECK.is("P28 'in the present year'", 2, () -> x.meanSalary(0));
        x.nextYear();
        CHECK.refuses("P28: the contracts are over", ArithmeticException.class, () -> x.meanSalary(0));
        StringBuilder most = new StringBuilder("league 1 1 0 0 1;bracket 1 1;teams 1;players 12;");
        for (int k = 0; k < 12; k++) {
            most.append("contract ").append(k).append(" 0 99999 20 5 99999 0;");
        }
        SalaryCapLedger full = Check.league(most.toString());
        for (int k = 0; k < 4; k++) {
            full.nextYear();
        }
        CHECK.is("P28: twelve at the greatest salary", 179998, () -> full.meanSalary(0));
    }
}
