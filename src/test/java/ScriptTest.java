import java.util.NoSuchElementException;

/** Promises 57 to 60. */
final class ScriptTest {
    public static void main(String[] arguments) {
        typing();
        everyCommand();
        forms();
        failures();
        allOrNone();
        Check.end();
    }

    static void type(PaperBoatInsurer x, String text) {
        for (int i = 0; i < text.length(); i++) {
            Check.due("type", x.type(text.charAt(i)), i + 1);
        }
    }

    static int run(PaperBoatInsurer x, String text) {
        type(x, text);
        return x.runScript();
    }

    private static void typing() {
        PaperBoatInsurer x = new PaperBoatInsurer();
        Check.refused(x, "errorPosition", NoSuchElementException.class, () -> x.errorPosition());
        Check.refused(x, "failedCommand", NoSuchElementException.class, () -> x.failedCommand());
        for (char wrong : new char[] {0, 10, 31, 127, 128, 255, 65535}) {
            Check.refused(x, "type", IllegalArgumentException.class, () -> x.type(wrong));
        }
        Check.due("the least character", x.type(' '), 1);
        Check.due("the greatest character", x.type('~'), 2);
        for (int i = 3; i <= 60; i++) {
            Check.due("type", x.type('a'), i);
        }
        Check.refused(x, "the 61st character", IllegalStateException.class, () -> x.type('a'));
        Check.refused(x, "a wrong 61st character", IllegalArgumentException.class, () -> x.type((char) 31));
        Check.refused(x, "run", IllegalArgumentException.class, () -> x.runScript());
        Check.due("errorPosition", x.errorPosition(), 0);
        Check.due("the buffer is empty afterwards", x.type('a'), 1);
    }

    private static void everyCommand() {
        PaperBoatInsurer x = new PaperBoatInsurer();
        Check.due("commands", run(x, "insure 20 5 40;treaty 4+8*9 12;treaty 20+1*1 0;void 1"), 4);
        Check.due("policies", x.policyCount(), 1);
        Check.due("treaties", x.treatyCount(), 1);
        Check.due("capacity", x.capacityOf(0), 9);
        Check.due("start", x.startOf(0), 4);
        Check.due("cash", x.cash(), 50 - 12);
        Check.due("commands", run(x, "claim 0w11;claim 00g05;pay 0 4;waive 1;wait 3"), 5);
        Check.due("claims", x.claimCount(), 1);
        Check.due("amount", x.amountOf(0), 9);
        Check.due("cause", x.causeOf(0), 'w');
        Check.due("paid", x.paidOf(0), 4);
        Check.due("day", x.day(), 3);
        Check.due("commands", run(x, "pay 0 5;close 0;end 0;offer 3-17 9"), 4);
        Check.due("policies", x.policyCount(), 0);
        Check.due("claims", x.claimCount(), 0);
        Check.due("cover", x.cheapestCover(3, 17), 9);
        Check.due("one command", run(x, "insure 7 0 1"), 1);
        Check.due("id", x.policyAt(0), 1);
        Check.due("sixty characters", run(x, "wait 1;wait 1;wait 1;wait 1;wait 1;wait 1;wait 1;offer 1-2 3"), 8);
        Check.due("day", x.day(), 10);
        for (int i = 2; i <= 8; i++) {
            x.insure(1, 1, 1);
        }
        Check.due("nine commands", run(x, "end 1;end 2;end 3;end 4;end 5;end 6;end 7;end 8;void 0"), 9);
        Check.due("policies", x.policyCount(), 0);
        Check.due("treaties", x.treatyCount(), 0);
    }

    private static void forms() {
        Object[][] rows = {{"", 0}, {"x", 0}, {"insure 205 4 4", 9}, {"insure 20 54 4", 11}, {"insure 20 5", 11},
            {"insure 20 5 ", 12}, {"insure  20 5 4", 7}, {"insure 20 5 400", 14}, {"insure 20 5 40;", 15},
            {"insure 20 5 40;;", 15}, {"insure 20 5 40 ", 14}, {"i", 1}, {"in", 2}, {"ind", 2}, {"insure20", 6},
            {"claim 0x5", 7}, {"claim 0r", 8}, {"claim 0 r5", 7}, {"claim r5", 6}, {"claim 000r5", 8},
            {"claim 1R5", 7}, {"cl", 2}, {"cla", 3}, {"clo", 3}, {"clx", 2}, {"close x", 6}, {"close 5r", 7},
            {"wai", 3}, {"waix", 3}, {"wait", 4}, {"waive", 5}, {"waitx", 4}, {"waive 1 ", 7}, {"pay 1", 5},
            {"pay 1,2", 5}, {"pay 1 2 3", 7}, {"treaty 1+2*3 4", -1}, {"treaty 1-2*3 4", 8}, {"treaty 1+2+3 4", 10},
            {"treaty 1+2*3", 12}, {"treaty 1+2*3 ", 13}, {"void 12", 6}, {"void", 4}, {"void x", 5}, {"voice", 3},
            {"offer 1-2", 9}, {"offer 1 2 3", 7}, {"offer 1-2-3", 9}, {"end 1;x", 6}, {"end 1;pay 1 1;en", 16},
            {"end -1", 4}, {"end 1; end 2", 6}, {" end 1", 0}, {"END 1", 0}, {"e", 1}, {"p", 1}, {"o", 1}, {"v", 1},
            {"t", 1}, {"w", 1}, {"wx", 1}, {"end", 3}, {"end1", 3}, {"end 1:", 5}, {"end 1/", 5}, {"end /", 4},
            {"end :", 4}, {";", 0}, {"~", 0}};
        for (Object[] row : rows) {
            PaperBoatInsurer x = new PaperBoatInsurer();
            type(x, (String) row[0]);
            if ((Integer) row[1] < 0) {
                Check.due("run of " + row[0], x.runScript(), 1);
                continue;
            }
            Check.refused(x, "run of " + row[0], IllegalArgumentException.class, () -> x.runScript());
            Check.due("errorPosition of " + row[0], x.errorPosition(), row[1]);
            Check.refused(x, "failedCommand", NoSuchElementException.class, () -> x.failedCommand());
            Check.due("the buffer is empty after " + row[0], x.type('w'), 1);
        }
    }

    private static void failures() {
        String[] rows = {"insure 31 0 1", "insure 00 0 1", "insure 1 9 1", "insure 1 0 61", "end 9", "treaty 30+1*1 0",
            "treaty 0+1*0 0", "void 1", "void 0", "void 9", "claim 9r1", "claim 0r0", "claim 1r5", "claim 0w1",
            "pay 9 1", "pay 0 0", "pay 0 8", "close 9", "close 0", "waive 9", "waive 2", "offer 5-4 1",
            "offer 0-0 51", "wait 0", "wait 61", "end 0"};
        for (String row : rows) {
            PaperBoatInsurer x = new PaperBoatInsurer();
            x.insure(20, 8, 60);
            x.insure(20, 8, 1);
            x.addTreaty(0, 10, 99, 5);
            x.claim(0, 'r', 7);
            x.claim(0, 'r', 5);
            x.claim(0, 'r', 3);
            x.passDays(1);
            x.pay(2, 1);
            type(x, row);
            Check.refused(x, "run of " + row, IllegalStateException.class, () -> x.runScript());
            Check.due("failedCommand of " + row, x.failedCommand(), 0);
            type(x, "wait 1;" + row + ";wait 99");
            Check.refused(x, "run of wait 1;" + row, IllegalStateException.class, () -> x.runScript());
            Check.due("failedCommand of wait 1;" + row, x.failedCommand(), 1);
            Check.refused(x, "errorPosition", NoSuchElementException.class, () -> x.errorPosition());
            Check.due("the buffer is empty after " + row, x.type('w'), 1);
        }
    }

    private static void allOrNone() {
        tenCommands();
        PaperBoatInsurer x = new PaperBoatInsurer();
        x.insure(20, 8, 60);
        x.addTreaty(0, 10, 99, 5);
        type(x, "insure 9 1 9;claim 1r5;pay 0 5;close 0;offer 1-2 3;end 7");
        Check.refused(x, "run", IllegalStateException.class, () -> x.runScript());
        Check.due("failedCommand", x.failedCommand(), 5);
        Check.due("the id of the next policy is as before", x.insure(1, 1, 1), 1);
        Check.due("the id of the next claim is as before", x.claim(0, 'r', 1), 0);
        type(x, "wait 1;wait");
        Check.refused(x, "run", IllegalArgumentException.class, () -> x.runScript());
        Check.due("errorPosition", x.errorPosition(), 11);
        Check.due("failedCommand stays", x.failedCommand(), 5);
        type(x, "end 9");
        Check.refused(x, "run", IllegalStateException.class, () -> x.runScript());
        Check.due("errorPosition stays", x.errorPosition(), 11);
        Check.due("failedCommand is the latest", x.failedCommand(), 0);
        Check.due("run", run(x, "wait 1"), 1);
        Check.due("errorPosition stays", x.errorPosition(), 11);
        Check.due("failedCommand stays", x.failedCommand(), 0);
    }

    private static void tenCommands() {
        PaperBoatInsurer x = new PaperBoatInsurer();
        for (int i = 0; i < 8; i++) {
            x.insure(1, 1, 1);
        }
        type(x, "end 0;end 1;end 2;end 3;end 4;end 5;end 6;end 7;wait 1;end 8");
        Check.refused(x, "run", IllegalStateException.class, () -> x.runScript());
        Check.due("failedCommand of ten", x.failedCommand(), 9);
    }
}
