/** The three examples of the document and its constant. */
public final class ExamplesTest {
    private static final Check CHECK = new Check();

    public static void main(String[] args) {
        CHECK.is("NONE", -1, () -> SalaryCapLedger.NONE);
        exampleOne();
        exampleTwo();
        exampleThree();
        CHECK.finish("ExamplesTest");
    }

    private static void exampleOne() {
        SalaryCapLedger x = new SalaryCapLedger();
        CHECK.refuses("1: year", IllegalStateException.class, () -> x.year());
        CHECK.is("1: load", -11, () -> x.load());
        CHECK.is("1: errorPosition", 0, () -> x.errorPosition());
    }

    private static void exampleTwo() {
        SalaryCapLedger x = new SalaryCapLedger();
        CHECK.is("2: append", 20, () -> x.append(1818583399, 1969561657, 808460337, 808464416, 892346418));
        CHECK.is("2: append", 40, () -> x.append(808460341, 809198194, 1633905509, 1948266800, 807416117));
        CHECK.is("2: append", 60, () -> x.append(809202789, 1634562848, 842756204, 1635345778, 1931490363));
        CHECK.is("2: append", 80, () -> x.append(1668247156, 1918985076, 540024880, 540356656, 540094496));
        CHECK.is("2: append", 100, () -> x.append(857747760, 807416379, 1668247156, 1918985076, 540090417));
        CHECK.is("2: append", 120, () -> x.append(540292400, 540024882, 540024880, 989855744, 0));
        CHECK.is("2: truncate", 113, () -> x.truncate(113));
        CHECK.is("2: load", 2, () -> x.load());
        CHECK.is("2: charge", 534, () -> x.charge(0, 0));
        CHECK.is("2: charge", 583, () -> x.charge(0, 1));
        CHECK.is("2: releaseCost", 250, () -> x.releaseCost(0, true, 0));
        CHECK.is("2: makeOffer", 400, () -> x.makeOffer(400, 0, 1, 0, 0));
        CHECK.is("2: bestRule", -2, () -> x.bestRule(0, 2));
        CHECK.is("2: tradeCode", 0, () -> x.tradeCode(0, 1, 1, 2));
    }

    private static void exampleThree() {
        SalaryCapLedger x = new SalaryCapLedger();
        CHECK.is("3: append", 20, () -> x.append(1818583399, 1969561649, 808460337, 892346416, 540024881));
        CHECK.is("3: append", 40, () -> x.append(996307553, 1667982708, 540094496, 825241659, 1651663203));
        CHECK.is("3: append", 60, () -> x.append(1801810976, 825237554, 808467316, 1700883827, 540097392));
        CHECK.is("3: append", 80, () -> x.append(1818327397, 1920147506, 996372334, 1953653091, 1948266528));
        CHECK.is("3: append", 100, () -> x.append(807416120, 807415840, 891301920, 809172992, 0));
        CHECK.is("3: truncate", 94, () -> x.truncate(94));
        CHECK.is("3: load", 1, () -> x.load());
        CHECK.is("3: tax", 50, () -> x.tax(0));
        CHECK.is("3: taxAhead", 230, () -> x.taxAhead(0, 4));
        CHECK.is("3: nextYear", 50, () -> x.nextYear());
        CHECK.is("3: taxedYears", 1, () -> x.taxedYears(0));
    }
}
