/** Promises 6 to 10 and 40: the actions, their errors in order, and their undoing. Each due number was reckoned by hand. */
public final class ActionTest {
    private static final Check CHECK = new Check();
    private static final String HEAD = "league 1000 1200 100 200 50;bracket 100 100;bracket 50 200;teams 3;players 8;";
    /** Salaries 500, 550, 600 with shares 34, 33, 33; 400, 400; 300 with share 7; 90, 108, 126, 144, 162. */
    private static final String TEXT = HEAD + "contract 0 0 500 10 3 100 2;contract 1 0 400 0 2 0 1;"
            + "contract 2 1 300 5 1 7 0;contract 3 1 90 20 5 0 5;";

    public static void main(String[] args) {
        makeOffer();
        signByRoom();
        signByMidLevel();
        signByMinimum();
        signOwnPlayer();
        signErrors();
        tenureAfterSigning();
        release();
        releaseStretched();
        releaseLater();
        trade();
        tradeErrors();
        tradeRoster();
        tradeLimits();
        nextYear();
        lastYear();
        undo();
        CHECK.finish("ActionTest");
    }

    private static void makeOffer() {
        SalaryCapLedger x = Check.league(TEXT);
        CHECK.is("makeOffer with a bonus", 134, () -> x.makeOffer(100, 20, 3, 100, 2));
        CHECK.is("the base", 100, () -> x.offer(0));
        CHECK.is("the raise", 20, () -> x.offer(1));
        CHECK.is("the length", 3, () -> x.offer(2));
        CHECK.is("the bonus", 100, () -> x.offer(3));
        CHECK.is("the guaranteed years", 2, () -> x.offer(4));
        CHECK.illegal("base 0", () -> x.makeOffer(0, 0, 1, 0, 0));
        CHECK.illegal("base 100000", () -> x.makeOffer(100000, 0, 1, 0, 0));
        CHECK.illegal("raise -1", () -> x.makeOffer(1, -1, 1, 0, 0));
        CHECK.illegal("raise 21", () -> x.makeOffer(1, 21, 1, 0, 0));
        CHECK.illegal("length 0", () -> x.makeOffer(1, 0, 0, 0, 0));
        CHECK.illegal("length 6", () -> x.makeOffer(1, 0, 6, 0, 0));
        CHECK.illegal("bonus -1", () -> x.makeOffer(1, 0, 1, -1, 0));
        CHECK.illegal("bonus 100000", () -> x.makeOffer(1, 0, 1, 100000, 0));
        CHECK.illegal("guaranteed -1", () -> x.makeOffer(1, 0, 1, 0, -1));
        CHECK.illegal("guaranteed above the length", () -> x.makeOffer(1, 0, 4, 0, 5));
        CHECK.is("the base stays", 100, () -> x.offer(0));
        CHECK.is("the greatest offer", 199998, () -> x.makeOffer(99999, 20, 1, 99999, 1));
        CHECK.is("a bonus below the length", 2, () -> x.makeOffer(1, 0, 5, 1, 5));
        CHECK.is("three offers succeeded", 2, () -> x.undo());
    }

    private static void signByRoom() {
        SalaryCapLedger x = Check.league(TEXT);
        x.makeOffer(46, 0, 5, 101, 0);
        CHECK.is("67 of room 66", -4, () -> x.sign(0, 4, 0));
        x.makeOffer(46, 0, 5, 100, 0);
        CHECK.is("66 of room 66", 1000, () -> x.sign(0, 4, 0));
        CHECK.is("no room is left", 0, () -> x.room(0));
        CHECK.is("the amount stays", 200, () -> x.midLevel(0));
        CHECK.is("the contract", 0, () -> x.playerValue(4, 3));
        CHECK.is("its years", 5, () -> x.playerValue(4, 4));
        CHECK.is("its shares", 100, () -> x.playerValue(4, 6));
        x.makeOffer(10, 0, 1, 0, 0);
        CHECK.is("a later offer changes no contract", 46, () -> x.salary(4, 0));
    }

    private static void signByMidLevel() {
        SalaryCapLedger x = Check.league(TEXT);
        x.makeOffer(100, 0, 4, 0, 0);
        CHECK.is("four years", -4, () -> x.sign(0, 4, 1));
        x.makeOffer(171, 0, 3, 90, 0);
        CHECK.is("201 of 200", -4, () -> x.sign(0, 4, 1));
        x.makeOffer(100, 0, 3, 1, 0);
        CHECK.is("101 of 200", 1035, () -> x.sign(0, 4, 1));
        CHECK.is("what is left", 99, () -> x.midLevel(0));
        CHECK.is("of the other team", 200, () -> x.midLevel(1));
        CHECK.is("101 of 99", -4, () -> x.sign(0, 5, 1));
        x.makeOffer(99, 0, 1, 0, 0);
        CHECK.is("99 of 99", 1134, () -> x.sign(0, 5, 1));
        CHECK.is("nothing is left", 0, () -> x.midLevel(0));
        x.nextYear();
        CHECK.is("the whole amount again", 200, () -> x.midLevel(0));
    }

    private static void signByMinimum() {
        SalaryCapLedger x = Check.league(TEXT);
        x.makeOffer(51, 0, 1, 0, 0);
        CHECK.is("above the minimum", -4, () -> x.sign(0, 4, 2));
        x.makeOffer(50, 1, 2, 0, 0);
        CHECK.is("with a raise", -4, () -> x.sign(0, 4, 2));
        x.makeOffer(50, 0, 2, 1, 0);
        CHECK.is("with a bonus", -4, () -> x.sign(0, 4, 2));
        x.makeOffer(50, 0, 3, 0, 0);
        CHECK.is("three years", -4, () -> x.sign(0, 4, 2));
        x.makeOffer(50, 0, 2, 0, 2);
        CHECK.is("the minimum", 984, () -> x.sign(0, 4, 2));
        CHECK.is("again, above the room", 1034, () -> x.sign(0, 5, 2));
        CHECK.is("the amount stays", 200, () -> x.midLevel(0));
    }

    private static void signOwnPlayer() {
        SalaryCapLedger x = Check.league(TEXT);
        x.makeOffer(5000, 20, 5, 1000, 5);
        CHECK.is("no last team", -4, () -> x.sign(1, 4, 3));
        x.nextYear();
        CHECK.is("tenure 1", -4, () -> x.sign(1, 2, 3));
        x.nextYear();
        CHECK.is("tenure 2 of another team", -4, () -> x.sign(1, 1, 3));
        CHECK.is("tenure 2", 633 + 5200, () -> x.sign(0, 1, 3));
        CHECK.is("the tenure goes on", 2, () -> x.playerValue(1, 2));
        x.nextYear();
        CHECK.is("and grows", 3, () -> x.playerValue(1, 2));
        CHECK.is("the second year", 6000, () -> x.salary(1, 0));
    }

    private static void signErrors() {
        StringBuilder text = new StringBuilder("league 999999 999999 0 0 1;bracket 1 1;teams 2;players 14;");
        for (int k = 0; k < 12; k++) {
            text.append("contract ").append(k).append(" 0 1 0 1 0 0;");
        }
        SalaryCapLedger x = Check.league(text.toString());
        x.makeOffer(99999, 0, 1, 0, 0);
        CHECK.is("a player of this full team", -2, () -> x.sign(0, 11, 1));
        CHECK.is("a player of a full team", -2, () -> x.sign(1, 0, 1));
        CHECK.is("a full team", -3, () -> x.sign(0, 12, 1));
        CHECK.is("not by the mid-level amount", -4, () -> x.sign(1, 12, 1));
        CHECK.is("the other team", 99999, () -> x.sign(1, 12, 0));
        CHECK.is("a full team still", -3, () -> x.sign(0, 13, 0));
        CHECK.is("room for one", 1, () -> x.release(3, false) + 1);
        CHECK.is("the twelfth", 11 + 99999, () -> x.sign(0, 13, 0));
        CHECK.illegal("team -1", () -> x.sign(-1, 12, 0));
        CHECK.illegal("team 2", () -> x.sign(2, 12, 0));
        CHECK.illegal("player -1", () -> x.sign(0, -1, 0));
        CHECK.illegal("player 14", () -> x.sign(0, 14, 0));
        CHECK.illegal("rule -1", () -> x.sign(0, 12, -1));
        CHECK.illegal("rule 4", () -> x.sign(0, 12, 4));
    }

    private static void tenureAfterSigning() {
        SalaryCapLedger x = Check.league(TEXT);
        x.nextYear();
        CHECK.is("tenure of an ended contract", 1, () -> x.playerValue(2, 2));
        x.makeOffer(10, 0, 1, 0, 0);
        x.sign(1, 2, 0);
        CHECK.is("signed by the last team", 1, () -> x.playerValue(2, 2));
        x.undo();
        x.sign(2, 2, 0);
        CHECK.is("signed by another team", 0, () -> x.playerValue(2, 2));
        CHECK.is("the last team then", 2, () -> x.playerValue(2, 1));
        x.nextYear();
        CHECK.is("a year later", 1, () -> x.playerValue(2, 2));
        CHECK.is("without a contract", -1, () -> x.playerValue(2, 0));
        x.nextYear();
        CHECK.is("no year counts without a contract", 1, () -> x.playerValue(2, 2));
    }

    private static void release() {
        SalaryCapLedger x = Check.league(TEXT);
        CHECK.is("release", 100 + 500 + 550, () -> x.release(0, false));
        CHECK.is("dead money now", 600, () -> x.deadMoney(0, 0));
        CHECK.is("dead money of the next year", 550, () -> x.deadMoney(0, 1));
        CHECK.is("no year is guaranteed behind", 0, () -> x.deadMoney(0, 2));
        CHECK.is("the charge", 1000, () -> x.charge(0, 0));
        CHECK.is("no team", -1, () -> x.playerValue(0, 0));
        CHECK.is("no last team", -1, () -> x.playerValue(0, 1));
        CHECK.is("released again", -2, () -> x.release(0, true));
        CHECK.is("a player without a contract", -2, () -> x.release(7, false));
        CHECK.illegal("player -1", () -> x.release(-1, false));
        CHECK.illegal("player 8", () -> x.release(8, false));
        CHECK.is("more dead money", 400, () -> x.release(1, false));
        CHECK.is("both together", 1000, () -> x.deadMoney(0, 0));
        CHECK.is("both actions", 1, () -> x.undo());
        CHECK.is("no guarantee, a bonus alone", 7, () -> x.release(2, true));
    }

    private static void releaseStretched() {
        SalaryCapLedger x = Check.league(TEXT);
        CHECK.is("release stretched", 100 + 1050, () -> x.release(0, true));
        CHECK.is("with the shares", 250, () -> x.deadMoney(0, 0));
        CHECK.is("the seventh year", 150, () -> x.deadMoney(0, 6));
        CHECK.is("the eighth year", 0, () -> x.deadMoney(0, 7));
        CHECK.is("630 over 11 years", 630, () -> x.release(3, true));
        CHECK.is("with a remainder of 3", 58, () -> x.deadMoney(1, 2));
        CHECK.is("behind the remainder", 57, () -> x.deadMoney(1, 3));
        CHECK.is("the eleventh year", 57, () -> x.deadMoney(1, 10));
        CHECK.is("the twelfth year", 0, () -> x.deadMoney(1, 11));
        x.nextYear();
        CHECK.is("a year on", 58, () -> x.deadMoney(1, 1));
        CHECK.is("the last year moves", 57, () -> x.deadMoney(1, 9));
        CHECK.is("nothing behind", 0, () -> x.deadMoney(1, 10));
    }

    private static void releaseLater() {
        SalaryCapLedger x = Check.league(TEXT);
        x.nextYear();
        CHECK.is("the second year", 66 + 550, () -> x.release(0, false));
        x.undo();
        CHECK.is("stretched over five years", 66 + 550, () -> x.release(0, true));
        CHECK.is("with two shares", 66 + 110, () -> x.deadMoney(0, 0));
        CHECK.is("the fifth year", 110, () -> x.deadMoney(0, 4));
        CHECK.is("the sixth year", 0, () -> x.deadMoney(0, 5));
        x.undo();
        x.nextYear();
        CHECK.is("the guarantee is over", 33, () -> x.release(0, false));
        CHECK.is("the tenure is gone", 0, () -> x.playerValue(0, 2));
    }

    private static void trade() {
        SalaryCapLedger x = Check.league(TEXT);
        CHECK.is("trade", 400 + 100 + 300 + 7 + 500 + 90, () -> x.trade(0, 1, 1, 4));
        CHECK.is("the charge of the one", 400 + 100 + 300, () -> x.charge(0, 0));
        CHECK.is("its dead money", 100, () -> x.deadMoney(0, 0));
        CHECK.is("the charge of the other one", 500 + 90 + 7, () -> x.charge(1, 0));
        CHECK.is("the new team", 1, () -> x.playerValue(0, 0));
        CHECK.is("the last team", 1, () -> x.playerValue(0, 1));
        CHECK.is("no shares any more", 0, () -> x.playerValue(0, 6));
        CHECK.is("no share of the next year", 0, () -> x.share(0, 1));
        CHECK.is("the salary stays", 550, () -> x.salary(0, 1));
        CHECK.is("the guarantee stays", 2, () -> x.playerValue(0, 5));
        CHECK.is("released without shares", 1050, () -> x.release(0, false));
        x.undo();
        CHECK.is("traded back", 397 + 400 + 500 + 100, () -> x.trade(1, 1, 0, 4));
        x.nextYear();
        CHECK.is("the tenure goes on", 1, () -> x.playerValue(0, 2));
        x.nextYear();
        CHECK.is("through trades", 2, () -> x.playerValue(0, 2));
    }

    private static void tradeErrors() {
        SalaryCapLedger x = Check.league(TEXT);
        CHECK.is("nobody", -2, () -> x.trade(0, 0, 1, 0));
        CHECK.is("a player without a contract", -3, () -> x.trade(0, 16, 1, 4));
        CHECK.is("a player of the other team", -3, () -> x.trade(0, 1, 1, 2));
        CHECK.is("one of two", -3, () -> x.trade(0, 5, 1, 0));
        CHECK.illegal("the same team", () -> x.trade(1, 4, 1, 8));
        CHECK.illegal("team -1", () -> x.trade(-1, 1, 1, 4));
        CHECK.illegal("team 3", () -> x.trade(3, 1, 1, 4));
        CHECK.illegal("other -1", () -> x.trade(0, 1, -1, 4));
        CHECK.illegal("other 3", () -> x.trade(0, 1, 3, 4));
        CHECK.illegal("a player who does not exist", () -> x.trade(0, 256, 1, 0));
        CHECK.illegal("others who do not exist", () -> x.trade(0, 0, 1, 256));
        CHECK.illegal("a negative set", () -> x.trade(0, -1, 1, 4));
        CHECK.illegal("a negative set of others", () -> x.trade(0, 1, 1, -1));
        CHECK.is("nothing was done", -2, () -> x.undo());
    }

    private static void tradeRoster() {
        StringBuilder text = new StringBuilder("league 999999 999999 0 0 1;bracket 1 1;teams 2;players 14;");
        for (int k = 0; k < 14; k++) {
            text.append("contract ").append(k).append(k < 12 ? " 0 1 0 1 0 0;" : " 1 1 0 1 0 0;");
        }
        SalaryCapLedger x = Check.league(text.toString());
        CHECK.is("a thirteenth player", -4, () -> x.tradeCode(0, 0, 1, 1 << 12));
        CHECK.is("a thirteenth player of the other team", -4, () -> x.tradeCode(1, 1 << 13, 0, 0));
        CHECK.is("two for one", -4, () -> x.tradeCode(0, 1, 1, 3 << 12));
        CHECK.is("one for one", 0, () -> x.tradeCode(0, 1, 1, 1 << 12));
        CHECK.is("twelve for two", 14, () -> x.trade(0, 4095, 1, 3 << 12));
        CHECK.is("the other team is full now", 12, () -> Integer.bitCount(x.roster(1)));
    }

    private static void tradeLimits() {
        SalaryCapLedger x = Check.league("league 100 500 0 0 1;bracket 1 1;teams 2;players 6;"
                + "contract 0 0 101 0 1 0 0;contract 1 1 226 0 1 0 0;contract 2 1 227 0 1 0 0;"
                + "contract 3 0 399 0 1 0 0;contract 4 1 180 0 1 0 0;contract 5 1 101 0 1 0 0;");
        CHECK.is("126 + 100 at the tax line, 248 of 226 above it", 0, () -> x.tradeCode(0, 1, 1, 2));
        CHECK.is("227 of 226 for the first team", -5, () -> x.tradeCode(0, 1, 1, 4));
        CHECK.is("the same for the other team", -6, () -> x.tradeCode(1, 4, 0, 1));
        CHECK.is("399 of 248 above the tax line", -6, () -> x.tradeCode(0, 8, 1, 2));
        CHECK.is("399 of 446 above the tax line", 0, () -> x.tradeCode(0, 8, 1, 18));
        CHECK.is("101 of 111 above the tax line", 0, () -> x.tradeCode(1, 32, 0, 1));
        CHECK.is("a gift of 101 above 100", -5, () -> x.tradeCode(0, 0, 1, 32));
        SalaryCapLedger y = Check.league("league 100 500 0 0 1;bracket 1 1;teams 2;players 3;"
                + "contract 0 0 50 0 2 60 0;contract 1 1 101 0 1 0 0;contract 2 1 100 0 1 0 0;");
        CHECK.is("100 as a gift", 0, () -> y.tradeCode(0, 0, 1, 4));
        CHECK.is("101 as a gift", -5, () -> y.tradeCode(0, 0, 1, 2));
        CHECK.is("the limit of 162", 0, () -> y.tradeCode(0, 1, 1, 2));
        CHECK.is("the limit of 162 for 201", -5, () -> y.tradeCode(0, 1, 1, 6));
        CHECK.is("the limit of 162 for the other team", -6, () -> y.tradeCode(1, 6, 0, 1));
        tradeAboveTaxLine(111, 0);
        tradeAboveTaxLine(112, -6);
        tradeUnderCap(800, 0);
        tradeUnderCap(799, -5);
    }

    /** 101 * 110 / 100 is 111. */
    private static void tradeAboveTaxLine(int salary, int due) {
        SalaryCapLedger x = Check.league("league 1 100 0 0 1;bracket 1 1;teams 2;players 2;"
                + "contract 0 0 " + salary + " 0 1 0 0;contract 1 1 101 0 1 0 0;");
        CHECK.is(salary + " for 101", due, () -> x.tradeCode(0, 1, 1, 2));
    }

    /** The charge after the trade is 780 and 20 of dead money. */
    private static void tradeUnderCap(int cap, int due) {
        SalaryCapLedger x = Check.league("league " + cap + " 100 0 0 1;bracket 1 1;teams 2;players 2;"
                + "contract 0 0 300 0 2 20 0;contract 1 1 780 0 1 0 0;");
        CHECK.is("under the cap of " + cap, due, () -> x.tradeCode(0, 1, 1, 2));
    }

    private static void nextYear() {
        SalaryCapLedger x = Check.league("league 500 1000 0 9 1;bracket 100 50;bracket 100 201;teams 2;players 3;"
                + "contract 0 0 1105 0 5 0 0;contract 1 1 1001 0 2 0 0;");
        CHECK.is("50 + 10 and 0", 60, () -> x.nextYear());
        CHECK.is("the taxes of the one", 60, () -> x.paid(0));
        CHECK.is("no tax, but taxed", 0, () -> x.paid(1));
        CHECK.is("the taxed year", 1, () -> x.taxedYears(1));
        CHECK.is("the year", 1, () -> x.year());
        CHECK.is("the second year", 60, () -> x.nextYear());
        CHECK.is("a contract that is over", -1, () -> x.playerValue(1, 0));
        CHECK.is("its team", 1, () -> x.playerValue(1, 1));
        CHECK.is("the third year", 60, () -> x.nextYear());
        CHECK.is("the fourth year: taxed in three", 60 + 105, () -> x.nextYear());
        CHECK.is("the fifth year", 60 + 105, () -> x.nextYear());
        CHECK.is("the sixth year", 0, () -> x.nextYear());
        CHECK.is("all taxes", 3 * 60 + 2 * 165, () -> x.paid(0));
        CHECK.is("the taxed years", 31, () -> x.taxedYears(0));
        CHECK.is("the taxed years of the other", 3, () -> x.taxedYears(1));
    }

    private static void lastYear() {
        SalaryCapLedger x = Check.league(TEXT);
        for (int k = 0; k < 15; k++) {
            CHECK.is("the end of year " + k, 0, () -> x.nextYear());
        }
        CHECK.is("the end of year 15", -2, () -> x.nextYear());
        CHECK.is("year 15", 15, () -> x.year());
        x.makeOffer(99, 20, 5, 99, 5);
        CHECK.is("signed in year 15", 119, () -> x.sign(0, 0, 0));
        CHECK.is("salary of year 19", 99 + 79, () -> x.salary(0, 4));
        CHECK.is("released in year 15", 99 + 99 + 118 + 138 + 158 + 178, () -> x.release(0, true));
        CHECK.is("dead money of year 25", 62, () -> x.deadMoney(0, 10));
        CHECK.is("dead money of year 26", 0, () -> x.deadMoney(0, 11));
        CHECK.is("ten actions are remembered", 9, () -> x.undo());
    }

    private static void undo() {
        SalaryCapLedger x = Check.league(TEXT);
        CHECK.is("nothing to undo", -2, () -> x.undo());
        for (int k = 1; k <= 12; k++) {
            x.makeOffer(k, 0, 1, 0, 0);
        }
        for (int k = 9; k >= 0; k--) {
            int left = k;
            CHECK.is("undo", left, () -> x.undo());
            CHECK.is("the offer before", left + 2, () -> x.offer(0));
        }
        CHECK.is("ten were remembered", -2, () -> x.undo());
        CHECK.is("the second offer stays", 2, () -> x.offer(0));
        x.sign(0, 4, 1);
        x.release(0, true);
        x.trade(0, 2, 1, 4);
        x.nextYear();
        CHECK.is("undo of a year", 3, () -> x.undo());
        CHECK.is("the year", 0, () -> x.year());
        CHECK.is("the tenure", 0, () -> x.playerValue(1, 2));
        CHECK.is("undo of a trade", 2, () -> x.undo());
        CHECK.is("the team", 0, () -> x.playerValue(1, 0));
        CHECK.is("the share", 7, () -> x.share(2, 0));
        CHECK.is("undo of a release", 1, () -> x.undo());
        CHECK.is("the dead money", 0, () -> x.deadMoney(0, 6));
        CHECK.is("undo of a signing", 0, () -> x.undo());
        CHECK.is("the amount", 200, () -> x.midLevel(0));
        CHECK.is("the last team", -1, () -> x.playerValue(4, 1));
        x.append(1, 2, 3, 4, 5);
        x.makeOffer(3, 0, 1, 0, 0);
        CHECK.is("undo of an offer", 0, () -> x.undo());
        CHECK.is("the buffer stays", 20, () -> x.truncate(20));
    }
}
