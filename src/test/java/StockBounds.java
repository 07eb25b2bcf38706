/** The boundary cases of the promises 5 to 15, 30 and 31: stations, trays, orders and lines. */
final class StockBounds {
    private static final int[] OFF_THE_FLOOR = {-1, 64, Integer.MIN_VALUE, Integer.MAX_VALUE};
    private static final int[] NO_GOOD = {-1, 6, Integer.MIN_VALUE, Integer.MAX_VALUE};
    private static final int[] NO_FILLING = {0, 101, -1, Integer.MIN_VALUE, Integer.MAX_VALUE};

    private StockBounds() {
    }

    static void run() {
        stationArguments();
        stationPlaces();
        stationLimit();
        trayArguments();
        trayPlaces();
        trayLimit();
        fillArguments();
        fillOfCarriedTrays();
        fillOfOtherTrays();
        orderLimit();
        lineArguments();
        lineLimit();
        claimArguments();
        claimOfClaimedLines();
        claimCounts();
        giveUpArguments();
        giveUpOfUnclaimedLines();
        giveUpOfWork();
        lineQuestions();
        linesThatEnd();
        trayQuestions();
        trayAmounts();
        trayCells();
        goodArguments();
        stocksOfNothingAndOfAll();
    }

    // ---- stations

    private static void stationArguments() {
        for (int cell : OFF_THE_FLOOR) {
            Check.refused("promise 5: addStation(" + cell + ")", ShelfSwarm::new, Check.ARGUMENT, x -> x.addStation(cell));
            Check.refused("promise 5: a fourth one in " + cell + ", the argument first", Scene::full, Check.ARGUMENT,
                    x -> x.addStation(cell));
        }
        Check.taken("promise 5: addStation(0)", ShelfSwarm::new, x -> x.addStation(0), 0);
        Check.taken("promise 5: addStation(63)", ShelfSwarm::new, x -> x.addStation(63), 0);
    }

    private static void stationPlaces() {
        Check.Scenery one = () -> {
            ShelfSwarm x = new ShelfSwarm();
            x.wall(8);
            x.addStation(9);
            return x;
        };
        Check.refused("promise 5: in a wall", one, Check.STATE, x -> x.addStation(8));
        Check.refused("promise 5: in the cell of another one", one, Check.STATE, x -> x.addStation(9));
        Check.taken("promise 5: beside another one", one, x -> x.addStation(10), 1);
        Check.taken("promise 5: in a closed cell", one, x -> (x.setClosed(10, true) ? 10 : 0) + x.addStation(10), 1);
        Check.taken("promise 5: in the home of a tray", one, x -> x.addTray(10, 0, 1) * 10 + x.addStation(10), 1);
        Check.taken("promise 5: in the cell of a robot", one, x -> x.addRobot(10, 0) * 10 + x.addStation(10), 1);
        Check.taken("promise 5: in the cell of a DEAD robot", one,
                x -> x.addRobot(10, 0) * 100 + x.die(0) * 10 + x.addStation(10), -9);
    }

    private static void stationLimit() {
        Check.taken("promise 5: the third one", ShelfSwarm::new,
                x -> x.addStation(0) * 100 + x.addStation(1) * 10 + x.addStation(2), 12);
        Check.refused("promise 5: a fourth one", Scene::full, Check.STATE, x -> x.addStation(30));
        Check.refused("promise 5: a fourth one where one is", Scene::full, Check.STATE, x -> x.addStation(63));
    }

    // ---- trays

    private static void trayArguments() {
        for (int cell : OFF_THE_FLOOR) {
            Check.refused("promise 6: the home " + cell, ShelfSwarm::new, Check.ARGUMENT, x -> x.addTray(cell, 0, 1));
            Check.refused("promise 6: a seventeenth at home in " + cell + ", the argument first", Scene::full,
                    Check.ARGUMENT, x -> x.addTray(cell, 0, 1));
        }
        for (int good : NO_GOOD) {
            Check.refused("promise 6: the good " + good, ShelfSwarm::new, Check.ARGUMENT, x -> x.addTray(0, good, 1));
            Check.refused("promise 6: a seventeenth of the good " + good + ", the argument first", Scene::full,
                    Check.ARGUMENT, x -> x.addTray(30, good, 1));
        }
        int[] noAmount = {-1, 101, Integer.MIN_VALUE, Integer.MAX_VALUE};
        for (int amount : noAmount) {
            Check.refused("promise 6: the amount " + amount, ShelfSwarm::new, Check.ARGUMENT,
                    x -> x.addTray(0, 0, amount));
            Check.refused("promise 6: another tray's home and the amount " + amount + ", the argument first",
                    Scene::busy, Check.ARGUMENT, x -> x.addTray(16, 0, amount));
        }
        Check.taken("promise 6: the home 0", ShelfSwarm::new, x -> x.addTray(0, 0, 1) * 10 + x.trayCell(0), 0);
        Check.taken("promise 6: the home 63", ShelfSwarm::new, x -> x.addTray(63, 0, 1) * 100 + x.trayCell(0), 63);
        Check.taken("promise 6: the good 0", ShelfSwarm::new, x -> x.addTray(9, 0, 7) * 10 + x.stock(0), 7);
        Check.taken("promise 6: the good 5", ShelfSwarm::new, x -> x.addTray(9, 5, 7) * 10 + x.stock(5), 7);
        Check.taken("promise 6: the amount 0", ShelfSwarm::new, x -> x.addTray(9, 0, 0) * 10 + x.amount(0), 0);
        Check.taken("promise 6: the amount 100", ShelfSwarm::new, x -> x.addTray(9, 0, 100) * 1000 + x.amount(0), 100);
    }

    private static void trayPlaces() {
        Check.Scenery one = () -> {
            ShelfSwarm x = new ShelfSwarm();
            x.wall(8);
            x.addTray(9, 0, 1);
            return x;
        };
        Check.refused("promise 6: in a wall", one, Check.STATE, x -> x.addTray(8, 0, 1));
        Check.refused("promise 6: in a wall, of the good 6, the argument first", one, Check.ARGUMENT,
                x -> x.addTray(8, 6, 1));
        Check.refused("promise 6: in another tray's home", one, Check.STATE, x -> x.addTray(9, 0, 1));
        Check.refused("promise 6: in the home of a tray that is carried", Scene::busy, Check.STATE,
                x -> x.addTray(16, 0, 1));
        Check.taken("promise 6: beside another tray's home", one, x -> x.addTray(10, 0, 1), 1);
        Check.taken("promise 6: in a closed cell", one, x -> (x.setClosed(10, true) ? 10 : 0) + x.addTray(10, 0, 1), 1);
        Check.taken("promise 6: in the cell of a station", one, x -> x.addStation(10) * 10 + x.addTray(10, 0, 1), 1);
        Check.taken("promise 6: in the cell of a robot that carries a tray", Scene::busy, x -> x.addTray(20, 0, 1), 5);
        Check.taken("promise 6: in the cell of a DEAD robot", Scene::busy, x -> x.addTray(58, 0, 1), 5);
    }

    private static void trayLimit() {
        Check.taken("promise 6: the sixteenth", ShelfSwarm::new, x -> {
            int number = ShelfSwarm.NONE;
            for (int tray = 0; tray < 16; tray++) {
                number = x.addTray(63 - tray, 0, 1);
                Check.due("promise 6: the numbers of trays", number, tray);
            }
            return number;
        }, 15);
        Check.refused("promise 6: a seventeenth", Scene::full, Check.STATE, x -> x.addTray(30, 0, 1));
        Check.refused("promise 6: a seventeenth where one is", Scene::full, Check.STATE, x -> x.addTray(15, 0, 1));
    }

    // ---- fill

    private static void fillArguments() {
        int[] noTray = {-1, 5, Integer.MIN_VALUE, Integer.MAX_VALUE};
        for (int tray : noTray) {
            Check.refused("promise 7: the tray " + tray, Scene::busy, Check.INDEX, x -> x.fill(tray, 1));
            Check.refused("promise 7: the tray " + tray + " by 0, the index first", Scene::busy, Check.INDEX,
                    x -> x.fill(tray, 0));
            Check.refused("promise 7: the tray " + tray + " by 101, the index first", Scene::busy, Check.INDEX,
                    x -> x.fill(tray, 101));
        }
        Check.refused("promise 7: a tray behind the sixteenth", Scene::full, Check.INDEX, x -> x.fill(16, 1));
        Check.refused("promise 7: no tray at all", ShelfSwarm::new, Check.INDEX, x -> x.fill(0, 1));
        for (int amount : NO_FILLING) {
            Check.refused("promise 7: by " + amount, Scene::full, Check.ARGUMENT, x -> x.fill(0, amount));
            Check.refused("promise 7: a carried one by " + amount + ", the argument first", Scene::busy,
                    Check.ARGUMENT, x -> x.fill(2, amount));
        }
        Check.taken("promise 7: by 1", Scene::full, x -> x.fill(1, 1), 2);
        Check.taken("promise 7: by 100", Scene::full, x -> x.fill(1, 100), 101);
        Check.taken("promise 7: the first tray, an empty one", Scene::full, x -> x.fill(0, 3), 3);
        Check.taken("promise 7: the sixteenth tray", Scene::full, x -> x.fill(15, 1), 16);
        Check.taken("promise 7: again and again", Scene::full, x -> {
            for (int i = 0; i < 200; i++) {
                x.fill(1, 100);
            }
            return x.fill(1, 1);
        }, 20002);
    }

    private static void fillOfCarriedTrays() {
        Check.refused("promise 7: with a DEAD robot", Scene::busy, Check.STATE, x -> x.fill(0, 1));
        Check.refused("promise 7: with a SERVING robot", Scene::busy, Check.STATE, x -> x.fill(1, 1));
        Check.refused("promise 7: with a BRINGING robot", Scene::busy, Check.STATE, x -> x.fill(2, 1));
        Check.refused("promise 7: with a RETURNING robot", Scene::busy, Check.STATE, x -> x.fill(3, 100));
        Check.refused("promise 7: in its home, but with a robot", () -> {
            ShelfSwarm x = Scene.serving(9, 9);
            x.giveUp(0, 0);
            return x;
        }, Check.STATE, x -> x.fill(0, 1));
    }

    private static void fillOfOtherTrays() {
        Check.taken("promise 7: a robot goes for it", Scene::busy, x -> x.fill(4, 1), 41);
        Check.taken("promise 7: a robot died on its way to it", Scene::busy, x -> x.die(4) * 100 + x.fill(4, 1), -59);
        Check.taken("promise 7: it was returned", Scene::busy, x -> x.tick(1) * 0 + x.fill(3, 1), 41);
        Check.taken("promise 7: in the cell of a robot that does not carry it", Scene::busy,
                x -> x.addTray(20, 0, 0) * 100 + x.fill(5, 1), 501);
    }

    // ---- orders and lines

    private static void orderLimit() {
        Check.taken("promise 8: the tenth", ShelfSwarm::new, x -> {
            int number = ShelfSwarm.NONE;
            for (int order = 0; order < 10; order++) {
                number = x.addOrder();
                Check.due("promise 8: the numbers of orders", number, order);
            }
            return number;
        }, 9);
        Check.refused("promise 8: an eleventh", Scene::full, Check.STATE, x -> x.addOrder());
        Check.refused("promise 8: it has no lines", Scene::orders, Check.INDEX, x -> x.left(1, 0));
    }

    private static void lineArguments() {
        int[] noOrder = {-1, 2, Integer.MIN_VALUE, Integer.MAX_VALUE};
        for (int order : noOrder) {
            Check.refused("promise 9: the order " + order, Scene::orders, Check.INDEX, x -> x.addLine(order, 0, 1));
            Check.refused("promise 9: the order " + order + " and the good 6, the index first", Scene::orders,
                    Check.INDEX, x -> x.addLine(order, 6, 1));
            Check.refused("promise 9: the order " + order + " and the amount 0, the index first", Scene::orders,
                    Check.INDEX, x -> x.addLine(order, 0, 0));
        }
        Check.refused("promise 9: an order behind the tenth", Scene::full, Check.INDEX, x -> x.addLine(10, 0, 1));
        for (int good : NO_GOOD) {
            Check.refused("promise 9: the good " + good, Scene::orders, Check.ARGUMENT, x -> x.addLine(1, good, 1));
            Check.refused("promise 9: a fourth line of the good " + good + ", the argument first", Scene::full,
                    Check.ARGUMENT, x -> x.addLine(9, good, 1));
        }
        int[] noAmount = {0, 51, -1, Integer.MIN_VALUE, Integer.MAX_VALUE};
        for (int amount : noAmount) {
            Check.refused("promise 9: the amount " + amount, Scene::orders, Check.ARGUMENT, x -> x.addLine(1, 0, amount));
            Check.refused("promise 9: a fourth line, the amount " + amount + ", the argument first", Scene::full,
                    Check.ARGUMENT, x -> x.addLine(0, 0, amount));
        }
        Check.taken("promise 9: the good 0", Scene::orders, x -> x.addLine(1, 0, 3), 0);
        Check.taken("promise 9: the good 5", Scene::orders, x -> x.addLine(1, 5, 3), 0);
        Check.taken("promise 9: the amount 1", Scene::orders, x -> x.addLine(1, 0, 1) * 100 + x.left(1, 0), 1);
        Check.taken("promise 9: the amount 50", Scene::orders, x -> x.addLine(1, 0, 50) * 100 + x.left(1, 0), 50);
    }

    private static void lineLimit() {
        Check.taken("promise 9: the third line", Scene::orders, x -> x.addLine(0, 0, 1), 2);
        Check.taken("promise 9: the first line of another order", Scene::orders,
                x -> x.addLine(0, 0, 1) * 10 + x.addLine(1, 0, 1), 20);
        Check.refused("promise 9: a fourth line of the first order", Scene::full, Check.STATE, x -> x.addLine(0, 0, 1));
        Check.refused("promise 9: a fourth line of the tenth order", Scene::full, Check.STATE, x -> x.addLine(9, 0, 1));
        Check.refused("promise 9: a fourth line, though a claim was given up", () -> {
            ShelfSwarm x = Scene.full();
            x.giveUp(0, 0);
            return x;
        }, Check.STATE, x -> x.addLine(0, 0, 1));
    }

    // ---- claims

    private static void claimArguments() {
        int[] none = {-1, Integer.MIN_VALUE, Integer.MAX_VALUE};
        for (int number : none) {
            Check.refused("promise 10: the station " + number, Scene::claimed, Check.INDEX, x -> x.claim(number, 0, 0));
            Check.refused("promise 10: the order " + number, Scene::claimed, Check.INDEX, x -> x.claim(0, number, 0));
            Check.refused("promise 10: the line " + number, Scene::claimed, Check.INDEX, x -> x.claim(0, 0, number));
        }
        Check.refused("promise 10: the station 2 of two", Scene::claimed, Check.INDEX, x -> x.claim(2, 0, 0));
        Check.refused("promise 10: the order 2 of two", Scene::claimed, Check.INDEX, x -> x.claim(0, 2, 0));
        Check.refused("promise 10: the line 2 of two", Scene::claimed, Check.INDEX, x -> x.claim(0, 0, 2));
        Check.refused("promise 10: a line of an order without lines", Scene::claimed, Check.INDEX, x -> x.claim(0, 1, 0));
        Check.refused("promise 10: the station 3 of three", Scene::full, Check.INDEX, x -> x.claim(3, 0, 0));
        Check.refused("promise 10: the order 10 of ten", Scene::full, Check.INDEX, x -> x.claim(0, 10, 0));
        Check.refused("promise 10: the line 3 of three", Scene::full, Check.INDEX, x -> x.claim(0, 9, 3));
        Check.refused("promise 10: a claimed line and the station 2, the index first", Scene::claimed, Check.INDEX,
                x -> x.claim(2, 0, 1));
        Check.taken("promise 10: the first station, order and line", Scene::full,
                x -> x.giveUp(0, 0) * 100 + x.claim(0, 0, 0) * 10 + x.claimant(0, 0), 120);
        Check.taken("promise 10: the last station, order and line", Scene::full,
                x -> x.giveUp(9, 2) * 1000 + x.claim(2, 9, 2) * 10 + x.claimant(9, 2), 102);
    }

    private static void claimOfClaimedLines() {
        Check.refused("promise 10: claimed by the same station", Scene::claimed, Check.STATE, x -> x.claim(1, 0, 1));
        Check.refused("promise 10: claimed by another station", Scene::claimed, Check.STATE, x -> x.claim(0, 0, 1));
        Check.Scenery usedUp = () -> {
            ShelfSwarm x = Scene.serving(9, 1);
            x.tick(1);
            return x;
        };
        Check.taken("promise 10: a line is used up", usedUp, x -> x.left(0, 0), 0);
        Check.refused("promise 10: claimed, though nothing is left", usedUp, Check.STATE, x -> x.claim(0, 0, 0));
        Check.taken("promise 10: given up, and claimed though nothing is left", usedUp,
                x -> x.giveUp(0, 0) + x.claim(0, 0, 0), 1);
        Check.taken("promise 10: given up, and claimed by another", Scene::claimed,
                x -> x.giveUp(0, 1) * 100 + x.claim(0, 0, 1) * 10 + x.claimant(0, 1), 110);
    }

    private static void claimCounts() {
        Check.taken("promise 10: a station's first", Scene::claimed, x -> x.claim(0, 0, 0), 1);
        Check.taken("promise 10: a station's second", Scene::claimed, x -> x.claim(1, 0, 0), 2);
        Check.taken("promise 10: all thirty by one station", Scene::full, x -> {
            int count = 0;
            for (int row = 0; row < 30; row++) {
                x.giveUp(row / 3, row % 3);
            }
            for (int row = 0; row < 30; row++) {
                count = x.claim(2, row / 3, row % 3);
                Check.due("promise 10: the count of claims", count, row + 1);
            }
            return count;
        }, 30);
        Check.taken("promise 10: one of which nothing is left is counted", () -> Scene.serving(9, 1),
                x -> x.tick(1) * 100 + x.left(0, 0) * 10 + x.addLine(0, 2, 1) + x.claim(0, 0, 1), 103);
    }

    private static void giveUpArguments() {
        int[] none = {-1, 2, Integer.MIN_VALUE, Integer.MAX_VALUE};
        for (int number : none) {
            Check.refused("promise 11: the order " + number, Scene::claimed, Check.INDEX, x -> x.giveUp(number, 1));
            Check.refused("promise 11: the line " + number, Scene::claimed, Check.INDEX, x -> x.giveUp(0, number));
        }
        Check.refused("promise 11: a line of an order without lines", Scene::claimed, Check.INDEX, x -> x.giveUp(1, 0));
        Check.refused("promise 11: the order 10 of ten", Scene::full, Check.INDEX, x -> x.giveUp(10, 0));
        Check.refused("promise 11: the line 3 of three", Scene::full, Check.INDEX, x -> x.giveUp(9, 3));
        Check.taken("promise 11: the first line", Scene::full, x -> x.giveUp(0, 0) * 10 + x.claimant(0, 0), -1);
        Check.taken("promise 11: the last line", Scene::full, x -> x.giveUp(8, 2) * 10 + x.claimant(8, 2), 19);
    }

    private static void giveUpOfUnclaimedLines() {
        Check.refused("promise 11: never claimed", Scene::claimed, Check.STATE, x -> x.giveUp(0, 0));
        Check.refused("promise 11: given up already", Scene::busy, Check.STATE, x -> x.giveUp(3, 0));
        Check.taken("promise 11: though nothing is left", () -> Scene.serving(9, 1),
                x -> x.tick(1) * 10 + x.giveUp(0, 0) + x.claimant(0, 0), 9);
        Check.taken("promise 11: the order of the claims that are left", () -> {
            ShelfSwarm x = new ShelfSwarm();
            x.addStation(0);
            for (int good = 0; good < 3; good++) {
                x.addTray(good, good, 9);
                Scene.ordered(x, 0, good, 9);
            }
            x.addRobot(8, 0);
            return x;
        }, x -> x.giveUp(1, 0) + x.tick(1) + x.trayOf(0), 0);
    }

    private static void giveUpOfWork() {
        Check.taken("promise 11: a FETCHING robot", Scene::busy,
                x -> x.giveUp(4, 0) * 100 + x.state(4) * 10 + x.trayOf(4), 199);
        Check.taken("promise 11: a BRINGING robot", Scene::busy,
                x -> x.giveUp(2, 0) * 100 + x.state(2) * 10 + x.trayOf(2), 142);
        Check.taken("promise 11: a SERVING robot", Scene::busy,
                x -> x.giveUp(1, 0) * 100 + x.state(1) * 10 + x.trayOf(1), 41);
        Check.taken("promise 11: a robot that died at its work", Scene::busy,
                x -> x.die(1) * 1000 + x.giveUp(1, 0) * 100 + x.state(1) * 10 + x.trayOf(1), 1051);
        Check.taken("promise 11: a robot that died on its way to the tray", Scene::busy,
                x -> x.die(4) * 1000 + x.giveUp(4, 0) * 100 + x.state(4) * 10 + x.trayOf(4), -751);
        Check.taken("promise 11: a robot that has died and was repaired", Scene::busy,
                x -> x.die(2) * 1000 + x.repair(2) * 100 + x.giveUp(2, 0) * 10 + x.state(2), 2414);
        Check.taken("promise 11: nobody worked for it yet", Scene::full, x -> x.giveUp(0, 0) + x.state(0), 0);
        Check.taken("promise 11: the other robots go on", Scene::busy,
                x -> x.giveUp(2, 0) * 0 + x.state(1) * 10000 + x.state(3) * 1000 + x.state(4) * 100 + x.state(5) * 10
                        + x.state(0), 34105);
    }

    // ---- what lines and trays are asked

    private static void lineQuestions() {
        int[][] wrong = {{-1, 0}, {2, 0}, {Integer.MIN_VALUE, 0}, {Integer.MAX_VALUE, 0},
            {0, -1}, {0, 2}, {0, Integer.MIN_VALUE}, {0, Integer.MAX_VALUE}, {1, 0}};
        for (int[] row : wrong) {
            String line = row[0] + ", " + row[1];
            Check.refused("promise 12: left(" + line + ")", Scene::orders, Check.INDEX, x -> x.left(row[0], row[1]));
            Check.refused("promise 13: claimant(" + line + ")", Scene::claimed, Check.INDEX,
                    x -> x.claimant(row[0], row[1]));
        }
        Check.refused("promise 12: the order 10 of ten", Scene::full, Check.INDEX, x -> x.left(10, 0));
        Check.refused("promise 12: the line 3 of three", Scene::full, Check.INDEX, x -> x.left(9, 3));
        Check.refused("promise 13: the order 10 of ten", Scene::full, Check.INDEX, x -> x.claimant(10, 0));
        Check.refused("promise 13: the line 3 of three", Scene::full, Check.INDEX, x -> x.claimant(9, 3));
        Check.taken("promise 12: the first line", Scene::orders, x -> x.left(0, 0), 1);
        Check.taken("promise 12: the last line of ten orders", Scene::full, x -> x.left(9, 2), 50);
        Check.taken("promise 13: the first line", Scene::full, x -> x.claimant(0, 0), 0);
        Check.taken("promise 13: the last line of ten orders, by the first station", Scene::full, x -> x.claimant(9, 2), 0);
        Check.taken("promise 13: by the last station", Scene::full, x -> x.claimant(8, 2), 2);
    }

    private static void linesThatEnd() {
        Check.taken("promise 12: one is left", () -> Scene.serving(9, 2), x -> x.tick(1) * 10 + x.left(0, 0), 11);
        Check.taken("promise 12: nothing is left", () -> Scene.serving(9, 2), x -> x.tick(2) * 10 + x.left(0, 0), 20);
        Check.taken("promise 12: it stays so", () -> Scene.serving(9, 2), x -> x.tick(50) * 10 + x.left(0, 0), 20);
        Check.taken("promise 12: a line of 50 to its end", () -> Scene.serving(100, 50),
                x -> x.tick(50) * 1000 + x.left(0, 0) * 100 + x.state(0), 50000);
        Check.taken("promise 13: though nothing is left", () -> Scene.serving(9, 2), x -> x.tick(2) + x.claimant(0, 0), 2);
        Check.taken("promise 13: not claimed", Scene::claimed, x -> x.claimant(0, 0), ShelfSwarm.NONE);
        Check.taken("promise 13: given up", Scene::busy, x -> x.claimant(3, 0), ShelfSwarm.NONE);
    }

    private static void trayQuestions() {
        int[] wrong = {-1, 5, 16, Integer.MIN_VALUE, Integer.MAX_VALUE};
        for (int tray : wrong) {
            Check.refused("promise 14: amount(" + tray + ")", Scene::busy, Check.INDEX, x -> x.amount(tray));
            Check.refused("promise 15: trayCell(" + tray + ")", Scene::busy, Check.INDEX, x -> x.trayCell(tray));
        }
        Check.refused("promise 14: a tray behind the sixteenth", Scene::full, Check.INDEX, x -> x.amount(16));
        Check.refused("promise 15: a tray behind the sixteenth", Scene::full, Check.INDEX, x -> x.trayCell(16));
        Check.taken("promise 14: the first of sixteen", Scene::full, x -> x.amount(0), 0);
        Check.taken("promise 14: the last of sixteen", Scene::full, x -> x.amount(15), 15);
        Check.taken("promise 15: the first of sixteen", Scene::full, x -> x.trayCell(0), 0);
        Check.taken("promise 15: the last of sixteen", Scene::full, x -> x.trayCell(15), 15);
    }

    private static void trayAmounts() {
        Check.taken("promise 14: the last piece but one", () -> Scene.serving(2, 9), x -> x.tick(1) * 10 + x.amount(0), 11);
        Check.taken("promise 14: the last piece", () -> Scene.serving(2, 9), x -> x.tick(2) * 10 + x.amount(0), 20);
        Check.taken("promise 14: nothing leaves an empty tray", () -> Scene.serving(2, 9),
                x -> x.tick(50) * 10 + x.amount(0), 20);
    }

    private static void trayCells() {
        Check.taken("promise 15: with a DEAD robot", Scene::busy, x -> x.trayCell(0), 58);
        Check.taken("promise 15: with a SERVING robot", Scene::busy, x -> x.trayCell(1), 7);
        Check.taken("promise 15: with a BRINGING robot", Scene::busy, x -> x.trayCell(2), 20);
        Check.taken("promise 15: with a RETURNING robot", Scene::busy, x -> x.trayCell(3), 41);
        Check.taken("promise 15: a FETCHING robot is still on its way", Scene::busy, x -> x.trayCell(4), 32);
        Check.taken("promise 15: returned", Scene::busy, x -> x.tick(1) * 0 + x.trayCell(3), 40);
    }

    // ---- stocks

    private static void goodArguments() {
        for (int good : NO_GOOD) {
            Check.refused("promise 30: stock(" + good + ")", Scene::busy, Check.ARGUMENT, x -> x.stock(good));
            Check.refused("promise 31: stockByPicks(" + good + ")", Scene::busy, Check.ARGUMENT,
                    x -> x.stockByPicks(good));
        }
        Check.taken("promise 30: the good 0", Scene::full, x -> x.stock(0), 0 + 6 + 12);
        Check.taken("promise 30: the good 5", Scene::full, x -> x.stock(5), 5 + 11);
        Check.taken("promise 31: the good 0", Scene::full, x -> x.stockByPicks(0), 0 + 6 + 12);
        Check.taken("promise 31: the good 5", Scene::full, x -> x.stockByPicks(5), 5 + 11);
    }

    private static void stocksOfNothingAndOfAll() {
        Check.taken("promise 30: no tray", ShelfSwarm::new, x -> x.stock(0), 0);
        Check.taken("promise 31: no tray", ShelfSwarm::new, x -> x.stockByPicks(0), 0);
        Check.taken("promise 30: an empty tray", () -> Scene.serving(2, 9), x -> x.tick(9) * 10 + x.stock(2), 20);
        Check.taken("promise 31: an empty tray", () -> Scene.serving(2, 9), x -> x.tick(9) * 10 + x.stockByPicks(2), 20);
        Check.taken("promise 30: filled again", () -> Scene.serving(2, 9),
                x -> x.tick(9) * 1000 + x.fill(0, 100) + x.stock(2), 2200);
        Check.taken("promise 31: filled again", () -> Scene.serving(2, 9),
                x -> x.tick(9) * 1000 + x.fill(0, 100) + x.stockByPicks(2), 2200);
        Check.taken("promise 30: a DEAD robot's tray", Scene::busy, x -> x.stock(5), 40);
        Check.taken("promise 31: a DEAD robot's tray", Scene::busy, x -> x.stockByPicks(5), 40);
        Check.Scenery hundreds = () -> {
            ShelfSwarm x = new ShelfSwarm();
            for (int tray = 0; tray < 16; tray++) {
                x.addTray(tray, 3, 100);
            }
            return x;
        };
        Check.taken("promise 30: sixteen full trays", hundreds, x -> x.fill(15, 100) * 0 + x.stock(3), 1700);
        Check.taken("promise 31: sixteen full trays", hundreds, x -> x.fill(15, 100) * 0 + x.stockByPicks(3), 1700);
    }
}
