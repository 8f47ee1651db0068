/**
 * "1 NUMBERS" and "3 YEARS, CONTRACTS, CHARGES", and promise 6: each sentence that names a boundary case. A check's
 * name begins with the section or promise that it is for. Each due number was reckoned by hand.
 */
public final class ContractEdgesTest {
    private static final Check CHECK = new Check();
    private static final String WIDE = "league 999999 999999 0 99999 99999;bracket 1 0;teams 2;players 24;";

    public static void main(String[] args) {
        salariesTruncate();
        linesTruncate();
        taxesTruncate();
        limitsTruncate();
        linesWithoutOverflow();
        taxWithoutOverflow();
        taxOfDeadMoneyWithoutOverflow();
        presentYear();
        linesOfAllYears();
        greatestGrowth();
        yearsOfContracts();
        remainderOfTheBonus();
        tradedContract();
        oneContract();
        twelvePlayers();
        charges();
        roomAroundZero();
        makeOfferReturns();
        makeOfferReplaces();
        CHECK.finish("ContractEdgesTest");
    }

    private static void salariesTruncate() {
        salaries("1: 99 * 7 * i / 100 is 6.93, 13.86, 20.79, 27.72", "99 7 5 0 0", 99, 105, 112, 119, 126);
        salaries("1: 1 * 20 * 4 / 100 is 0.8", "1 20 5 0 0", 1, 1, 1, 1, 1);
        salaries("1: 5 * 20 / 100 is 1", "5 20 5 0 0", 5, 6, 7, 8, 9);
        salaries("1: 4 * 20 * i / 100 is 0.8, 1.6, 2.4, 3.2", "4 20 5 0 0", 4, 4, 5, 6, 7);
        salaries("3: raise 0", "123 0 5 0 0", 123, 123, 123, 123, 123);
        salaries("3: the greatest", "99999 20 5 0 0", 99999, 119998, 139998, 159998, 179998);
    }

    private static void salaries(String what, String terms, int... due) {
        SalaryCapLedger x = Check.league(WIDE + "contract 0 0 " + terms + ";");
        for (int k = 0; k < 12; k++) {
            int ahead = k;
            CHECK.is(what + ": year " + k, k < due.length ? due[k] : 0, () -> x.salary(0, ahead));
        }
    }

    private static void linesTruncate() {
        lines("1: 1 * 1200 / 1000 stays 1", 1, 200, 1, 1, 1, 1);
        lines("1: 4 * 1200 / 1000 is 4.8", 4, 200, 4, 4, 4, 4);
        lines("1: 5 * 1200 / 1000 is 6, then 7.2, 8.4, 9.6, 10.8", 5, 200, 5, 6, 7, 8, 9, 10);
        lines("1: 999 * 1001 / 1000 is 999.999", 999, 1, 999, 999, 999);
        lines("1: 1000 * 1001 / 1000 is 1001, then 1002.001", 1000, 1, 1000, 1001, 1002);
        lines("3: growth 0", 777, 0, 777, 777, 777, 777);
    }

    private static void lines(String what, int first, int growth, int... due) {
        SalaryCapLedger cap = Check.league("league " + first + " 9 " + growth + " 0 1;bracket 1 1;teams 1;players 1;");
        SalaryCapLedger line = Check.league("league 9 " + first + " " + growth + " 0 1;bracket 1 1;teams 1;players 1;");
        for (int k = 0; k < due.length; k++) {
            int ahead = k;
            CHECK.is(what + ": cap", due[k], () -> cap.cap(ahead));
            CHECK.is(what + ": tax line", due[k], () -> line.taxLine(ahead));
        }
    }

    private static void taxesTruncate() {
        CHECK.is("1: 1 * 99 / 100 is 0.99", 0, () -> taxOf(101, "bracket 9 99;"));
        CHECK.is("1: 1 * 100 / 100 is 1", 1, () -> taxOf(101, "bracket 9 100;"));
        CHECK.is("1: each part for itself: 0.5 and 0.5", 0, () -> taxOf(102, "bracket 1 50;bracket 1 50;"));
        CHECK.is("1: each part for itself: 1.5, 1.5 and 1.5", 3, () -> taxOf(103, "bracket 1 150;bracket 1 150;bracket 1 150;"));
    }

    /** Of a single team with the tax line 100. */
    private static double taxOf(int charge, String brackets) {
        return Check.league("league 1 100 0 0 1;" + brackets + "teams 1;players 1;contract 0 0 " + charge + " 0 1 0 0;").tax(0);
    }

    private static void limitsTruncate() {
        String front = "league 1 ";
        String back = " 0 0 1;bracket 1 1;teams 2;players 3;contract 0 0 ";
        CHECK.is("1: 3 * 125 / 100 + 100 is 103.75: 103", 0, () -> Check.league(front + 9 + back
                + "3 0 1 0 0;contract 1 1 103 0 1 0 0;contract 2 1 50 0 1 0 0;").tradeCode(0, 1, 1, 2));
        CHECK.is("1: 3 * 125 / 100 + 100 is 103.75: 104", -5, () -> Check.league(front + 9 + back
                + "3 0 1 0 0;contract 1 1 104 0 1 0 0;contract 2 1 50 0 1 0 0;").tradeCode(0, 1, 1, 2));
        CHECK.is("1: 19 * 110 / 100 is 20.9: 20", 0, () -> Check.league(front + 1 + back
                + "19 0 1 0 0;contract 1 1 20 0 1 0 0;contract 2 1 50 0 1 0 0;").tradeCode(0, 1, 1, 2));
        CHECK.is("1: 19 * 110 / 100 is 20.9: 21", -5, () -> Check.league(front + 1 + back
                + "19 0 1 0 0;contract 1 1 21 0 1 0 0;contract 2 1 50 0 1 0 0;").tradeCode(0, 1, 1, 2));
    }

    /** The products of year 26 need 37 bits. */
    private static void linesWithoutOverflow() {
        SalaryCapLedger x = Check.league("league 999999 999998 200 0 1;bracket 1 1;teams 1;players 1;");
        CHECK.is("1 'without overflow': cap of year 4", 2073595, () -> x.cap(4));
        CHECK.is("1 'without overflow': cap of year 11", 7430062, () -> x.cap(11));
        endYears(x, 15);
        CHECK.is("1 'without overflow': cap of year 15", 15406974, () -> x.cap(0));
        CHECK.is("1 'without overflow': cap of year 26", 114475089, () -> x.cap(11));
        CHECK.is("1 'without overflow': tax line of year 26", 114474993, () -> x.taxLine(11));
    }

    /** Twelve players at 199,998 each; 900 times what is above the line needs 32 bits, in int it would be negative. */
    private static void taxWithoutOverflow() {
        StringBuilder text = new StringBuilder("league 1 1 0 0 1;bracket 99999 900;teams 1;players 12;");
        for (int k = 0; k < 12; k++) {
            text.append("contract ").append(k).append(" 0 99999 0 1 99999 0;");
        }
        SalaryCapLedger x = Check.league(text.toString());
        CHECK.is("1 'without overflow': the charge", 2399976, () -> x.charge(0, 0));
        CHECK.is("1 'without overflow': the tax of 2,399,975 at 900 percent", 21599775, () -> x.tax(0));
        CHECK.is("1 'without overflow': the taxes ahead", 21599775, () -> x.taxAhead(0, 8));
        CHECK.is("1 'without overflow': the taxes paid", 21599775, () -> x.nextYear());
    }

    /** Each signing by the minimum rule and release brings 99,999 in each of two years: 240 of them in 480 calls. */
    private static void taxOfDeadMoneyWithoutOverflow() {
        SalaryCapLedger x = Check.league("league 1 1 0 0 99999;bracket 1 0;bracket 99999 900;teams 1;players 1;");
        x.makeOffer(99999, 0, 2, 0, 2);
        for (int k = 0; k < 240; k++) {
            x.sign(0, 0, 2);
            x.release(0, false);
        }
        CHECK.is("1 'without overflow': dead money", 240 * 99999, () -> x.deadMoney(0, 1));
        CHECK.is("1 'without overflow': its tax", (240 * 99999 - 2) * 9, () -> x.tax(0));
        CHECK.is("1 'without overflow': its taxes ahead", (240 * 99999 - 2) * 18, () -> x.taxAhead(0, 2));
        x.nextYear();
        CHECK.is("1 'without overflow': two years' taxes", (240 * 99999 - 2) * 9, () -> x.nextYear());
        CHECK.is("1 'without overflow': their sum", (240 * 99999 - 2) * 18, () -> x.paid(0));
    }

    private static void presentYear() {
        SalaryCapLedger x = Check.league(WIDE);
        CHECK.is("3 'The present year is 0 at first'", 0, () -> x.year());
        for (int k = 0; k < 15; k++) {
            CHECK.is("3 'and at most 15': the end of year " + k, 0, () -> x.nextYear());
        }
        CHECK.is("3 'and at most 15': year 15", 15, () -> x.year());
        CHECK.is("3 'and at most 15': no end of year 15", -2, () -> x.nextYear());
        CHECK.is("3 'and at most 15': year 15 still", 15, () -> x.year());
    }

    private static void linesOfAllYears() {
        SalaryCapLedger all = Check.league("league 12345 54321 37 0 1;bracket 1 1;teams 1;players 1;");
        long cap = 12345;
        long line = 54321;
        for (int year = 0; year <= 15; year++) {
            int now = year;
            long highest = cap;
            long taxed = line;
            CHECK.is("3 'cap of the year y + 1': year " + now, highest, () -> all.cap(0));
            CHECK.is("3 'the tax line grows likewise': year " + now, taxed, () -> all.taxLine(0));
            cap = cap * 1037 / 1000;
            line = line * 1037 / 1000;
            long next = cap;
            long nextLine = line;
            CHECK.is("3 'cap of the year y + 1': a year ahead of " + now, next, () -> all.cap(1));
            CHECK.is("3 'the tax line grows likewise': a year ahead of " + now, nextLine, () -> all.taxLine(1));
            all.nextYear();
        }
    }

    private static void greatestGrowth() {
        SalaryCapLedger x = Check.league("league 10 100 200 0 1;bracket 1 100;teams 1;players 2;contract 0 0 120 0 5 0 0;");
        CHECK.is("3: above the tax line of year 0", 20, () -> x.tax(0));
        x.nextYear();
        CHECK.is("3: at the tax line of year 1, 120", 0, () -> x.tax(0));
        CHECK.is("3: the room by the cap of year 1, 12", 12 - 120, () -> x.room(0));
    }

    private static void yearsOfContracts() {
        for (int length = 1; length <= 5; length++) {
            int years = length;
            SalaryCapLedger x = Check.league(WIDE + "contract 0 0 100 10 " + length + " " + 2 * length + " 0;");
            CHECK.is("3: the last of " + years + " years", 100 + 10 * (years - 1), () -> x.salary(0, years - 1));
            CHECK.is("3: the last share of " + years, 2, () -> x.share(0, years - 1));
            CHECK.is("3: the year behind the last of " + years, 0, () -> x.salary(0, years));
            CHECK.is("3: no share behind the last of " + years, 0, () -> x.share(0, years));
            CHECK.is("3: no charge behind the last of " + years, 0, () -> x.charge(0, years));
            endYears(x, years - 1);
            CHECK.is("3: in the last year", 100 + 10 * (years - 1), () -> x.salary(0, 0));
            CHECK.is("3: the year number of the last year", years - 1, () -> x.playerValue(0, 3));
            CHECK.is("3: nothing is ahead of the last year", 0, () -> x.salary(0, 1) + x.share(0, 1));
            x.nextYear();
            CHECK.is("3: no contract any more", SalaryCapLedger.NONE, () -> x.playerValue(0, 0));
        }
        SalaryCapLedger later = Check.league(WIDE);
        endYears(later, 15);
        later.makeOffer(100, 10, 5, 11, 5);
        CHECK.is("3, 4 'beginning in the present year', 15", 103, () -> later.sign(0, 0, 0));
        CHECK.is("3: year number 0 in year 15", 0, () -> later.playerValue(0, 3));
        CHECK.is("3: the salary of year 19", 140, () -> later.salary(0, 4));
        CHECK.is("3: the charge of year 19", 142, () -> later.charge(0, 4));
        CHECK.is("3: the charge of year 20", 0, () -> later.charge(0, 5));
        CHECK.is("3, P26: the share of year 15", 3, () -> later.share(0, 0));
        CHECK.is("3, P26: the share of year 19", 2, () -> later.share(0, 4));
        CHECK.is("3, P26: the share of year 20", 0, () -> later.share(0, 5));
        CHECK.is("3, P24: the shares from year 15 on", 11, () -> later.playerValue(0, 6));
    }

    private static void remainderOfTheBonus() {
        shares("3: no bonus", 5, 0, 0, 0, 0, 0, 0);
        shares("3: S / L is 0, remainder 1", 5, 1, 1, 0, 0, 0, 0);
        shares("3: S / L is 0, remainder 4", 5, 4, 1, 1, 1, 1, 0);
        shares("3: no remainder", 5, 5, 1, 1, 1, 1, 1);
        shares("3: remainder 1", 5, 6, 2, 1, 1, 1, 1);
        shares("3: remainder 4", 5, 9, 2, 2, 2, 2, 1);
        shares("3: remainder 1 of 2", 2, 7, 4, 3);
        shares("3: remainder 2 of 3", 3, 5, 2, 2, 1);
        shares("3: remainder 3 of 4", 4, 99999, 25000, 25000, 25000, 24999);
        shares("3: one year", 1, 99999, 99999);
    }

    private static void shares(String what, int length, int bonus, int... due) {
        SalaryCapLedger x = Check.league(WIDE + "contract 0 0 10 0 " + length + " " + bonus + " 0;");
        int all = bonus;
        for (int k = 0; k < length; k++) {
            int left = all;
            CHECK.is(what + ": the shares from year " + k + " on", left, () -> x.playerValue(0, 6));
            for (int ahead = 0; ahead < 12; ahead++) {
                int then = ahead;
                CHECK.is(what + ": in year " + (k + then), k + then < length ? due[k + then] : 0, () -> x.share(0, then));
            }
            all -= due[k];
            x.nextYear();
        }
    }

    private static void tradedContract() {
        SalaryCapLedger x = Check.league(WIDE + "contract 0 0 100 10 5 53 3;");
        x.nextYear();
        CHECK.is("3: the share before the trade", 11, () -> x.share(0, 0));
        x.trade(0, 1, 1, 0);
        for (int k = 0; k < 12; k++) {
            int ahead = k;
            CHECK.is("3 'A contract that was traded has no shares': " + k, 0, () -> x.share(0, ahead));
            CHECK.is("3 'A contract that was traded': the salary stays", k < 4 ? 110 + 10 * k : 0, () -> x.salary(0, ahead));
            CHECK.is("3 'A contract that was traded': the charge", k < 4 ? 110 + 10 * k : 0, () -> x.charge(1, ahead));
        }
        CHECK.is("3 'has no shares any more': their sum", 0, () -> x.playerValue(0, 6));
        x.trade(1, 1, 0, 0);
        CHECK.is("3 'any more': nor when traded back", 0, () -> x.share(0, 0));
        CHECK.is("3 'any more': no second dead money", 42, () -> x.deadMoney(0, 0) + x.deadMoney(1, 0));
        x.release(0, false);
        x.makeOffer(100, 10, 5, 53, 3);
        x.sign(1, 0, 0);
        CHECK.is("3: a new contract has shares again", 11, () -> x.share(0, 0));
        x.trade(1, 1, 0, 0);
        CHECK.is("6: all shares of a contract that began in year 1", 53, () -> x.deadMoney(1, 0));
    }

    private static void oneContract() {
        SalaryCapLedger x = Check.league(WIDE + "contract 0 0 100 10 5 53 3;");
        CHECK.is("3 'A player has at most one contract'", -2, () -> x.sign(1, 0, 0));
        CHECK.is("3 'A player has at most one contract', nor with the same team", -2, () -> x.sign(0, 0, 0));
        x.release(0, false);
        CHECK.is("3: another one when it is over", 1, () -> x.sign(1, 0, 0));
    }

    private static void twelvePlayers() {
        StringBuilder text = new StringBuilder(WIDE);
        for (int k = 0; k < 12; k++) {
            text.append("contract ").append(2 * k).append(" 0 ").append(1 << k).append(" 0 2 ").append(2 << k).append(" 0;");
        }
        SalaryCapLedger x = Check.league(text.toString());
        CHECK.is("3 'a team has at most 12 players': all twelve are charged", 4095 + 4095, () -> x.charge(0, 0));
        CHECK.is("3 'a team has at most 12 players': all twelve have salaries", 4095 / 12.0, () -> x.meanSalary(0));
        CHECK.is("3 'a team has at most 12 players': signing a thirteenth", -3, () -> x.sign(0, 1, 2));
        CHECK.is("3 'a team has at most 12 players': the other team may", 1, () -> x.sign(1, 1, 2));
        CHECK.is("3 'a team has at most 12 players': trading for a thirteenth", -4, () -> x.tradeCode(0, 0, 1, 2));
        x.release(22, false);
        CHECK.is("3 'a team has at most 12 players': signing the twelfth", 2047 + 2047 + 4096 + 1, () -> x.sign(0, 3, 2));
        CHECK.is("3 'a team has at most 12 players': a thirteenth again", -3, () -> x.sign(0, 5, 2));
        x.release(3, false);
        CHECK.is("3 'a team has at most 12 players': trading for the twelfth", 0, () -> x.tradeCode(0, 0, 1, 2));
    }

    private static void charges() {
        SalaryCapLedger x = Check.league(WIDE + "contract 0 0 100 10 2 7 0;contract 1 0 200 0 3 3 0;contract 2 0 50 0 4 5 4;"
                + "contract 3 1 7000 0 5 0 0;");
        charged(x, "3: salaries and shares", 100 + 4 + 200 + 1 + 50 + 2, 110 + 3 + 200 + 1 + 50 + 1, 200 + 1 + 50 + 1, 50 + 1, 0);
        x.release(2, false);
        charged(x, "3: plus its dead money of this year", 100 + 4 + 200 + 1 + 50 + 5, 110 + 3 + 200 + 1 + 50, 200 + 1 + 50, 50, 0);
        x.nextYear();
        charged(x, "3: of later years", 110 + 3 + 200 + 1 + 50, 200 + 1 + 50, 50, 0);
        CHECK.is("3 'The room is the cap minus its charge'", 999999 - 364, () -> x.room(0));
        CHECK.is("3 'its contracts': not the other team's", 7000, () -> x.charge(1, 0));
    }

    private static void charged(SalaryCapLedger x, String what, int... due) {
        for (int k = 0; k < due.length; k++) {
            int ahead = k;
            CHECK.is(what + ": " + k + " years ahead", due[k], () -> x.charge(0, ahead));
        }
    }

    private static void roomAroundZero() {
        for (int charge = 99; charge <= 101; charge++) {
            int due = 100 - charge;
            SalaryCapLedger x = Check.league("league 100 100 0 0 1;bracket 1 1;teams 1;players 1;contract 0 0 " + charge + " 0 1 0 0;");
            CHECK.is("3 'The room of a team; it can be negative'", due, () -> x.room(0));
        }
    }

    private static void makeOfferReturns() {
        SalaryCapLedger x = Check.league(WIDE);
        CHECK.is("P6: the least of all", 1, () -> x.makeOffer(1, 0, 1, 0, 0));
        CHECK.is("P6: the greatest of all", 199998, () -> x.makeOffer(99999, 20, 1, 99999, 1));
        CHECK.is("P6: no raise in the first year", 99999, () -> x.makeOffer(99999, 20, 5, 0, 5));
        CHECK.is("P6: the share with a remainder", 10 + 3, () -> x.makeOffer(10, 20, 5, 11, 0));
        CHECK.is("P6: the share without a remainder", 10 + 2, () -> x.makeOffer(10, 20, 5, 10, 0));
        CHECK.is("P6: a bonus below the length", 10 + 1, () -> x.makeOffer(10, 0, 5, 1, 0));
        for (int length = 1; length <= 5; length++) {
            int years = length;
            CHECK.is("P6 'guaranteed: 0 to length': all of " + years, 10, () -> x.makeOffer(10, 0, years, 0, years));
            CHECK.is("P6 'guaranteed: 0 to length': none of " + years, 10, () -> x.makeOffer(10, 0, years, 0, 0));
            CHECK.illegal("P6 'guaranteed: 0 to length': one above " + years, () -> x.makeOffer(10, 0, years, 0, years + 1));
            CHECK.illegal("P6 'guaranteed: 0 to length': -1 of " + years, () -> x.makeOffer(10, 0, years, 0, -1));
        }
        CHECK.illegal("P6 'length: 1 to 5': 0, and 0 guaranteed", () -> x.makeOffer(10, 0, 0, 0, 0));
        CHECK.illegal("P6 'length: 1 to 5': 6, and 0 guaranteed", () -> x.makeOffer(10, 0, 6, 0, 0));
        CHECK.illegal("P6 'length: 1 to 5': 6, and all guaranteed", () -> x.makeOffer(10, 0, 6, 0, 6));
        CHECK.illegal("P6 'length: 1 to 5': -1, and -1 guaranteed", () -> x.makeOffer(10, 0, -1, 0, -1));
    }

    private static void makeOfferReplaces() {
        SalaryCapLedger x = Check.league(WIDE);
        int[] first = {1, 0, 1, 0, 0};
        int[] next = {99999, 20, 5, 99998, 4};
        for (int k = 0; k < 5; k++) {
            int what = k;
            CHECK.is("4 'at first these are 1, 0, 1, 0 and 0'", first[k], () -> x.offer(what));
        }
        x.makeOffer(next[0], next[1], next[2], next[3], next[4]);
        for (int k = 0; k < 5; k++) {
            int what = k;
            CHECK.is("P6 'Sets the offer': term " + k, next[k], () -> x.offer(what));
        }
        x.nextYear();
        CHECK.is("4 'There is one offer', a new year leaves it", 99998, () -> x.offer(3));
    }

    private static void endYears(SalaryCapLedger x, int years) {
        for (int k = 0; k < years; k++) {
            x.nextYear();
        }
    }
}
