/** Promises 5 to 15, 30 and 31; their boundary cases are in StockBounds. */
final class StockTests {
    private StockTests() {
    }

    static void run() {
        addStation();
        addTray();
        fill();
        addLine();
        claim();
        claimOrder();
        giveUp();
        giveUpWork();
        leftAndClaimant();
        amountAndTrayCell();
        stocks();
    }

    private static void addStation() {
        ShelfSwarm x = new ShelfSwarm();
        x.wall(5);
        x.setClosed(1, true);
        x.addTray(2, 0, 1);
        x.addRobot(2, 0);
        Check.due("promise 5: the first", x.addStation(63), 0);
        Check.due("promise 5: in a closed cell", x.addStation(1), 1);
        Check.due("promise 5: at home with a tray and a robot", x.addStation(2), 2);
    }

    private static void addTray() {
        ShelfSwarm x = new ShelfSwarm();
        x.wall(5);
        x.addStation(1);
        x.setClosed(2, true);
        Check.due("promise 6: the first", x.addTray(0, 0, 0), 0);
        Check.due("promise 6: at a station", x.addTray(1, 5, 100), 1);
        Check.due("promise 6: in a closed cell", x.addTray(2, 5, 1), 2);
        Check.due("promise 6: amounts", x.amount(0) * 1000 + x.amount(1), 100);
        Check.due("promise 6: goods", x.stock(5), 101);
    }

    private static void fill() {
        ShelfSwarm x = new ShelfSwarm();
        x.addStation(2);
        x.addTray(0, 3, 100);
        x.addTray(9, 3, 0);
        Check.due("promise 7: more than a hundred in all", x.fill(0, 100), 200);
        Check.due("promise 7: one", x.fill(0, 1), 201);
        Check.due("promise 7: an empty one", x.fill(1, 5), 5);
        x.addRobot(4, 0);
        Scene.ordered(x, 0, 3, 1);
        x.tick(1);
        int fetched = x.trayOf(0);
        Check.due("promise 7: a robot goes for it", x.fill(fetched, 1), 202);
        x.tick(3);
        Check.due("promise 7: it is carried", x.state(0), ShelfSwarm.BRINGING);
        x.tick(2);
        Check.due("promise 7: it serves", x.state(0), ShelfSwarm.SERVING);
        x.die(0);
        x.repair(0);
        x.tick(2);
        Check.due("promise 7: at home again", x.fill(fetched, 2), 204);
    }

    private static void addLine() {
        ShelfSwarm x = new ShelfSwarm();
        x.addOrder();
        x.addOrder();
        Check.due("promise 9: the first", x.addLine(0, 0, 1), 0);
        Check.due("promise 9: the second", x.addLine(0, 5, 50), 1);
        Check.due("promise 9: the third", x.addLine(0, 5, 3), 2);
        Check.due("promise 9: another order's first", x.addLine(1, 5, 4), 0);
        Check.due("promise 9: what is left", x.left(0, 1) * 100 + x.left(1, 0), 5004);
        Check.due("promise 9: nobody has claimed it", x.claimant(0, 2), ShelfSwarm.NONE);
    }

    private static void claim() {
        ShelfSwarm x = new ShelfSwarm();
        x.addOrder();
        x.addLine(0, 0, 1);
        x.addStation(0);
        x.addStation(1);
        x.addLine(0, 0, 1);
        x.addLine(0, 0, 1);
        Check.due("promise 10: one", x.claim(0, 0, 1), 1);
        Check.due("promise 10: two", x.claim(0, 0, 0), 2);
        Check.due("promise 10: another's first", x.claim(1, 0, 2), 1);
        Check.due("promise 10: the claimants", x.claimant(0, 0) * 100 + x.claimant(0, 1) * 10 + x.claimant(0, 2), 1);
        Check.due("promise 10: given up", x.giveUp(0, 1), 0);
        Check.due("promise 10: claimed again", x.claim(1, 0, 1), 2);
    }

    /** Lines are worked for in the order in which they were claimed, and those that are used up count. */
    private static void claimOrder() {
        ShelfSwarm x = new ShelfSwarm();
        x.addStation(0);
        x.addTray(0, 0, 9);
        x.addTray(1, 1, 9);
        x.addRobot(0, 0);
        x.addOrder();
        x.addLine(0, 0, 1);
        x.addLine(0, 1, 1);
        x.addLine(0, 1, 5);
        x.claim(0, 0, 0);
        x.claim(0, 0, 1);
        x.giveUp(0, 0);
        x.claim(0, 0, 0);
        x.tick(1);
        Check.due("promise 10: the line claimed first", x.trayOf(0), 1);
        x.tick(3);
        Check.due("promise 10: it is used up", x.left(0, 1), 0);
        Check.due("promise 10: it is still claimed", x.claimant(0, 1), 0);
        Check.due("promise 10: those used up count", x.claim(0, 0, 2), 3);
        x.tick(1);
        Check.due("promise 10: the line claimed next", x.trayOf(0), 0);
    }

    private static void giveUp() {
        ShelfSwarm x = new ShelfSwarm();
        x.addStation(0);
        x.addStation(1);
        x.addOrder();
        x.addLine(0, 0, 1);
        x.claim(1, 0, 0);
        Check.due("promise 11: the station", x.giveUp(0, 0), 1);
        Check.due("promise 11: claimed no more", x.claimant(0, 0), ShelfSwarm.NONE);
        Check.due("promise 11: counted no more", x.claim(1, 0, 0), 1);
        x.addLine(0, 0, 1);
        x.addLine(0, 0, 1);
        x.claim(1, 0, 1);
        x.claim(1, 0, 2);
        Check.due("promise 11: not the first one", x.giveUp(0, 1), 1);
        Check.due("promise 11: only that one", x.claimant(0, 0) * 100 + x.claimant(0, 1) * 10 + x.claimant(0, 2), 91);
        Check.due("promise 11: two are left", x.claim(1, 0, 1), 3);
    }

    private static void giveUpWork() {
        ShelfSwarm x = new ShelfSwarm();
        x.addStation(4);
        x.addTray(2, 0, 9);
        x.addRobot(0, 0);
        x.addRobot(63, 0);
        int order = Scene.ordered(x, 0, 0, 5);
        x.tick(1);
        x.giveUp(order, 0);
        Check.due("promise 11: a fetching one is idle", x.state(0), ShelfSwarm.IDLE);
        Check.due("promise 11: it goes for no tray", x.trayOf(0), ShelfSwarm.NONE);
        x.claim(0, order, 0);
        x.tick(1);
        Check.due("promise 11: it brings", x.state(0), ShelfSwarm.BRINGING);
        x.tick(1);
        x.giveUp(order, 0);
        Check.due("promise 11: a bringing one returns", x.state(0), ShelfSwarm.RETURNING);
        Check.due("promise 11: with its tray", x.trayOf(0), 0);
        Check.due("promise 11: from its cell", x.trayCell(0), 3);
        x.tick(1);
        Check.due("promise 11: home", x.cellOf(0) * 10 + x.state(0), 20 + ShelfSwarm.IDLE);
        x.claim(0, order, 0);
        x.tick(5);
        Check.due("promise 11: it serves", x.state(0), ShelfSwarm.SERVING);
        int left = x.left(order, 0);
        x.giveUp(order, 0);
        Check.due("promise 11: a serving one returns", x.state(0), ShelfSwarm.RETURNING);
        Check.due("promise 11: nothing is picked of it", x.tick(1) + x.left(order, 0), left);
        Check.due("promise 11: the other robot is not bothered", x.state(1) * 100 + x.cellOf(1), 63);
    }

    private static void leftAndClaimant() {
        ShelfSwarm x = Scene.serving(9, 3);
        Check.due("promise 12: all", x.left(0, 0), 3);
        Check.due("promise 13: the station", x.claimant(0, 0), 0);
        x.tick(1);
        Check.due("promise 12: less", x.left(0, 0), 2);
        x.tick(9);
        Check.due("promise 12: nothing", x.left(0, 0), 0);
        Check.due("promise 13: for a used up line", x.claimant(0, 0), 0);
        x.addOrder();
        x.addLine(1, 2, 50);
        Check.due("promise 12: another order", x.left(1, 0), 50);
        Check.due("promise 13: none", x.claimant(1, 0), ShelfSwarm.NONE);
    }

    private static void amountAndTrayCell() {
        ShelfSwarm x = new ShelfSwarm();
        x.addStation(3);
        x.addTray(1, 0, 7);
        x.addTray(9, 1, 0);
        x.addRobot(0, 0);
        Scene.ordered(x, 0, 0, 2);
        Check.due("promise 14: as it was told", x.amount(0) * 10 + x.amount(1), 70);
        Check.due("promise 15: home", x.trayCell(0) * 100 + x.trayCell(1), 109);
        x.tick(1);
        Check.due("promise 15: fetched in its home", x.trayCell(0), 1);
        x.tick(1);
        Check.due("promise 15: carried", x.trayCell(0), 2);
        x.die(0);
        Check.due("promise 15: with a dead robot", x.trayCell(0), 2);
        x.repair(0);
        Check.due("promise 15: with a returning robot", x.trayCell(0), 2);
        x.tick(1);
        Check.due("promise 15: home again", x.trayCell(0), 1);
        x.tick(4);
        Check.due("promise 14: one was picked", x.amount(0), 6);
        Check.due("promise 14: the other", x.amount(1), 0);
        Check.due("promise 15: at the station", x.trayCell(0), 3);
    }

    private static void stocks() {
        ShelfSwarm x = Scene.serving(5, 3);
        x.addTray(8, 2, 10);
        x.addTray(9, 5, 4);
        x.fill(1, 7);
        Check.due("promise 30: carried trays count", x.stock(2), 22);
        Check.due("promise 31: all that came in", x.stockByPicks(2), 22);
        x.tick(2);
        Check.due("promise 30: two less", x.stock(2), 20);
        Check.due("promise 31: two less", x.stockByPicks(2), 20);
        Check.due("promise 30: another good", x.stock(5) * 10 + x.stock(0), 40);
        Check.due("promise 31: another good", x.stockByPicks(5) * 10 + x.stockByPicks(0), 40);
        x.die(0);
        Check.due("promise 30: with a dead robot", x.stock(2), 20);
    }
}
