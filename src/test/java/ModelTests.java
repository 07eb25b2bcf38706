/** Runs of calls, drawn from a counter, on the program and on the model; their answers must be the same. */
final class ModelTests {
    private static final int CALLS = 512;
    private static final int RUNS = 400;
    private static final int KINDS = 34;
    private static final int TICK = 22;

    private final ShelfSwarm swarm = new ShelfSwarm();
    private final PlainModel model = new PlainModel();
    private final StringBuilder told = new StringBuilder();
    private long seed;
    private int calls = 0;
    private boolean same = true;
    // Most cells are drawn from a block of the floor, so that robots meet.
    private final int blockColumns;
    private final int blockRows;
    private final int blockStart;
    // A narrow block full of trays and robots, that die and are repaired all the time: rings come from that.
    private final boolean isCrowd;
    // Four robots are put so that they are about to be a ring.
    private final boolean isRing;

    private ModelTests(int run) {
        seed = run * 7919L + 17;
        draw(2);
        isRing = run % 8 == 6;
        isCrowd = run % 2 == 1;
        blockColumns = isRing ? 4 : isCrowd ? 2 + draw(2) : 2 + draw(run % 3 == 0 ? 7 : 3);
        blockRows = isRing ? 3 : isCrowd ? 2 : 1 + draw(run % 3 == 0 ? 8 : 3);
        blockStart = isRing ? draw(5) + 8 : draw(9 - blockColumns) + 8 * draw(9 - blockRows);
    }

    public static void main(String[] args) {
        run(args.length > 0 ? Integer.parseInt(args[0]) : RUNS);
        System.out.println(Check.right + " right, " + Check.wrong + " wrong");
    }

    static void run(int runs) {
        long[] met = new long[6];
        for (int run = 0; run < runs; run++) {
            ModelTests test = new ModelTests(run);
            test.play();
            Check.due("run " + run + " of the model", test.same, true);
            met[0] += test.model.rings();
            met[1] += test.model.yields();
            met[2] += test.model.knots();
            met[3] += test.model.picks();
            met[4] += test.model.steps();
            met[5] += test.model.time();
        }
        System.out.println("model: " + runs + " runs with " + met[0] + " rings, " + met[1] + " yields, " + met[2]
                + " knots, " + met[3] + " picks, " + met[4] + " steps, " + met[5] + " ticks");
        Check.due("the runs have rings, yields, knots and picks",
                met[0] > 0 && met[1] > 0 && met[2] > 0 && met[3] > 0, true);
    }

    private int draw(int bound) {
        seed = seed * 6364136223846793005L + 1442695040888963407L;
        return (int) ((seed >>> 33) % bound);
    }

    private int drawCell() {
        if (draw(40) == 0) {
            return draw(70) - 3;
        }
        return blockStart + draw(blockColumns) + 8 * draw(blockRows);
    }

    /** Mostly a number below the count, now and then one that is not there. */
    private int drawNumber(int count) {
        return draw(30) == 0 ? draw(count + 4) - 2 : draw(count);
    }

    private void play() {
        if (isRing) {
            setUpRing();
        } else {
            surroundBlock();
            setUp();
        }
        while (calls < CALLS && same) {
            int kind = draw(100);
            if (isCrowd && kind < 35) {
                int[] kinds = {TICK, TICK, TICK, 15, 16, 16, 16, 9, 8, 8, 8, 5};
                stir(kinds[draw(kinds.length)]);
            } else if (kind < 35) {
                call(TICK, draw(20) == 0 ? draw(54) - 1 : 1 + draw(3), 0, 0);
            } else if (kind < 80) {
                drawAndCall(askingKind());
            } else {
                drawAndCall(draw(KINDS));
            }
        }
    }

    private void stir(int kind) {
        if (kind == TICK) {
            call(TICK, 1, 0, 0);
        } else {
            drawAndCall(kind);
        }
    }

    private int askingKind() {
        int[] kinds = {18, 19, 20, 21, 18, 19, 20, 21, 2, 10, 11, 12, 13, 17, 23, 24, 25, 26, 27, 28, 29, 30, 31, 32, 33};
        return kinds[draw(kinds.length)];
    }

    private void surroundBlock() {
        if (!isCrowd && draw(3) != 0) {
            return;
        }
        for (int cell = 0; cell < 64; cell++) {
            int column = cell % 8 - blockStart % 8;
            int row = cell / 8 - blockStart / 8;
            boolean besideColumns = column == -1 || column == blockColumns;
            boolean besideRows = row == -1 || row == blockRows;
            boolean inColumns = column >= 0 && column < blockColumns;
            boolean inRows = row >= 0 && row < blockRows;
            if (besideColumns && inRows || besideRows && inColumns) {
                call(0, cell, 0, 0);
            }
        }
    }

    private void setUp() {
        for (int i = isCrowd ? 0 : draw(3); i > 0; i--) {
            call(0, drawCell(), 0, 0);
        }
        for (int i = 1 + draw(4); i > 0; i--) {
            call(3, drawCell(), 0, 0);
        }
        for (int i = 2 + draw(15); i > 0; i--) {
            call(4, drawCell(), draw(3), isCrowd || draw(3) == 0 ? draw(101) : draw(4));
        }
        for (int i = 1 + draw(7) + (isCrowd ? 8 : 0); i > 0; i--) {
            call(14, drawCell(), draw(3), 0);
        }
        for (int order = draw(11); order > 0; order--) {
            call(6, 0, 0, 0);
        }
        for (int i = draw(32); i > 0; i--) {
            call(7, draw(10), draw(3), 1 + draw(draw(3) == 0 ? 50 : 3));
        }
        for (int i = draw(50); i > 0; i--) {
            call(8, draw(3), draw(10), draw(3));
        }
    }

    /** The ring of TrafficTests, somewhere in the rows 1 and 2, with drawn ranks; now and then it is disturbed. */
    private void setUpRing() {
        call(3, blockStart + 48, 0, 0);
        park(0, 0, 16);
        park(1, 1, 0, -7, 2, 9);
        park(2, 9, 1, 8, 10, 17);
        park(3, 8, 9, 7);
        for (int robot = draw(12) == 0 ? 1 : 0; robot < 4; robot++) {
            call(16, robot, 0, 0);
            if (draw(6) == 0) {
                call(TICK, 1, 0, 0);
            }
        }
        while (draw(3) != 0) {
            call(14, drawCell(), draw(10), 0);
            call(4, drawCell(), draw(6), 9);
            drawAndCall(draw(KINDS));
        }
        call(TICK, 1, 0, 0);
        call(TICK, 1, 0, 0);
    }

    /** As in TrafficTests; the cells are counted from the start of the block. */
    private void park(int robot, int home, int cell, int... closed) {
        call(4, blockStart + home, robot, 9);
        call(14, blockStart + home, draw(10), 0);
        call(6, 0, 0, 0);
        call(7, robot, robot, 9);
        call(8, 0, robot, 0);
        for (int beside : closed) {
            call(1, blockStart + beside, 1, 0);
        }
        for (int i = 0; i < 9 && model.cellOf(robot) != blockStart + cell; i++) {
            call(TICK, 1, 0, 0);
        }
        call(15, robot, 0, 0);
        call(9, robot, 0, 0);
        for (int beside : closed) {
            call(1, blockStart + beside, 0, 0);
        }
    }

    private void drawAndCall(int kind) {
        switch (kind) {
            case 0:
                if (draw(10) == 0) {
                    call(kind, drawCell(), 0, 0);
                }
                break;
            case 1:
                call(kind, drawCell(), draw(4) == 0 ? 1 : 0, 0);
                break;
            case 4:
                call(kind, drawCell(), drawNumber(6), draw(104) - 1);
                break;
            case 5:
                call(kind, drawNumber(16), draw(50) == 0 ? draw(110) - 3 : 1 + draw(4), 0);
                break;
            case 7:
                call(kind, drawNumber(10), drawNumber(4), draw(20) == 0 ? draw(60) - 3 : 1 + draw(4));
                break;
            case 8:
                call(kind, drawNumber(3), drawNumber(10), drawNumber(3));
                break;
            case 9:
            case 10:
            case 11:
                call(kind, drawNumber(10), drawNumber(3), 0);
                break;
            case 12:
            case 13:
                call(kind, drawNumber(16), 0, 0);
                break;
            case 14:
                call(kind, drawCell(), drawNumber(10), 0);
                break;
            case 15:
            case 16:
            case 18:
            case 19:
            case 20:
            case 21:
                call(kind, drawNumber(6), 0, 0);
                break;
            case 28:
            case 29:
                call(kind, drawNumber(6), 0, 0);
                break;
            case 31:
            case 32:
            case 33:
                call(kind, drawNumber(model.picks() + 1), 0, 0);
                break;
            default:
                call(kind, drawCell(), drawCell(), 0);
                break;
        }
    }

    private void call(int kind, int a, int b, int c) {
        if (calls >= CALLS || !same) {
            return;
        }
        calls++;
        long want = modelAnswer(kind, a, b, c);
        long got;
        try {
            got = kind < 17 ? changingAnswer(kind, a, b, c) : askingAnswer(kind, a);
        } catch (IndexOutOfBoundsException e) {
            got = e.getClass() == IndexOutOfBoundsException.class ? PlainModel.INDEX : Long.MIN_VALUE;
        } catch (IllegalArgumentException e) {
            got = e.getClass() == IllegalArgumentException.class ? PlainModel.ARGUMENT : Long.MIN_VALUE;
        } catch (IllegalStateException e) {
            got = e.getClass() == IllegalStateException.class ? PlainModel.STATE : Long.MIN_VALUE;
        }
        told.append(kind).append('(').append(a).append(' ').append(b).append(' ').append(c).append(") ");
        if (got != want) {
            same = false;
            System.out.println(told + "answered " + got + ", the model " + want);
        }
    }

    private long changingAnswer(int kind, int a, int b, int c) {
        switch (kind) {
            case 0: swarm.wall(a); return 0;
            case 1: return swarm.setClosed(a, b == 1) ? 1 : 0;
            case 2: return swarm.distance(a, b);
            case 3: return swarm.addStation(a);
            case 4: return swarm.addTray(a, b, c);
            case 5: return swarm.fill(a, b);
            case 6: return swarm.addOrder();
            case 7: return swarm.addLine(a, b, c);
            case 8: return swarm.claim(a, b, c);
            case 9: return swarm.giveUp(a, b);
            case 10: return swarm.left(a, b);
            case 11: return swarm.claimant(a, b);
            case 12: return swarm.amount(a);
            case 13: return swarm.trayCell(a);
            case 14: return swarm.addRobot(a, b);
            case 15: return swarm.die(a);
            default: return swarm.repair(a);
        }
    }

    private long askingAnswer(int kind, int a) {
        switch (kind) {
            case 17: return swarm.robotIn(a);
            case 18: return swarm.cellOf(a);
            case 19: return swarm.state(a);
            case 20: return swarm.trayOf(a);
            case 21: return swarm.asked(a);
            case TICK: return swarm.tick(a);
            case 23: return swarm.time();
            case 24: return swarm.steps();
            case 25: return swarm.rings();
            case 26: return swarm.yields();
            case 27: return swarm.knots();
            case 28: return swarm.stock(a);
            case 29: return swarm.stockByPicks(a);
            case 30: return swarm.picks();
            case 31: return swarm.pickedFrom(a);
            case 32: return swarm.pickedFor(a);
            default: return swarm.pickedIn(a);
        }
    }

    private long modelAnswer(int kind, int a, int b, int c) {
        switch (kind) {
            case 0: return model.wall(a);
            case 1: return model.setClosed(a, b == 1);
            case 2: return model.distance(a, b);
            case 3: return model.addStation(a);
            case 4: return model.addTray(a, b, c);
            case 5: return model.fill(a, b);
            case 6: return model.addOrder();
            case 7: return model.addLine(a, b, c);
            case 8: return model.claim(a, b, c);
            case 9: return model.giveUp(a, b);
            case 10: return model.left(a, b);
            case 11: return model.claimant(a, b);
            case 12: return model.amount(a);
            case 13: return model.trayCell(a);
            case 14: return model.addRobot(a, b);
            case 15: return model.die(a);
            case 16: return model.repair(a);
            case 17: return model.robotIn(a);
            case 18: return model.cellOf(a);
            case 19: return model.state(a);
            case 20: return model.trayOf(a);
            case 21: return model.asked(a);
            case TICK: return model.tick(a);
            case 23: return model.time();
            case 24: return model.steps();
            case 25: return model.rings();
            case 26: return model.yields();
            case 27: return model.knots();
            case 28: return model.stock(a);
            case 29: return model.stockByPicks(a);
            case 30: return model.picks();
            default: return model.picked(a, kind - 31);
        }
    }
}
