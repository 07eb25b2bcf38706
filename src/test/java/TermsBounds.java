/**
 * "A call that throws changes nothing": of two swarms that are the same, one is asked for all that it
 * must refuse, between any two ticks; both go on in the same way.
 */
final class TermsBounds {
    private static final int TICKS = 6;

    private TermsBounds() {
    }

    static void run() {
        goesOn("robots of each state", Scene::busy);
        goesOn("all that there can be", Scene::full);
        goesOn("one that yields", () -> TrafficTests.meeting(0, 0));
        goesOn("one that yields by its rank", () -> TrafficTests.meeting(0, 9));
        goesOn("a knot", TrafficTests::knotted);
        goesOn("a ring of four", TrafficTests::ringOfFour);
        goesOn("one that serves", () -> Scene.serving(9, 9));
        goesOn("one that comes", Scene::coming);
        goesOn("claims without robots", Scene::claimed);
        goesOn("nothing", ShelfSwarm::new);
        goesOn("the end of time", () -> Scene.at(3000));
    }

    private static void goesOn(String what, Check.Scenery scenery) {
        ShelfSwarm tried = scenery.made();
        ShelfSwarm spared = scenery.made();
        for (int i = 0; i < TICKS; i++) {
            refuseNumbers("terms: " + what, tried);
            refuseArguments("terms: " + what, tried);
            String want = Check.thrown(spared, x -> x.tick(1));
            Check.due("terms: " + what + ", tick " + i, Check.thrown(tried, x -> x.tick(1)), want);
        }
        Check.due("terms: " + what + ", in the end", Snapshot.of(tried), Snapshot.of(spared));
        Check.due("terms: " + what + ", behind the end", Snapshot.later(tried), Snapshot.later(spared));
    }

    private static void refuse(String what, ShelfSwarm x, Class<? extends RuntimeException> want, Check.Call call) {
        Check.due(what + ", is refused", Check.thrown(x, call), want.getSimpleName());
    }

    private static void refuseNumbers(String what, ShelfSwarm x) {
        refuse(what + ", fill", x, Check.INDEX, y -> y.fill(16, 1));
        refuse(what + ", addLine", x, Check.INDEX, y -> y.addLine(10, 0, 1));
        refuse(what + ", claim", x, Check.INDEX, y -> y.claim(0, 10, 0));
        refuse(what + ", giveUp", x, Check.INDEX, y -> y.giveUp(-1, 0));
        refuse(what + ", left", x, Check.INDEX, y -> y.left(10, 0));
        refuse(what + ", claimant", x, Check.INDEX, y -> y.claimant(0, 3));
        refuse(what + ", amount", x, Check.INDEX, y -> y.amount(16));
        refuse(what + ", trayCell", x, Check.INDEX, y -> y.trayCell(-1));
        refuse(what + ", die", x, Check.INDEX, y -> y.die(6));
        refuse(what + ", repair", x, Check.INDEX, y -> y.repair(-1));
        refuse(what + ", cellOf", x, Check.INDEX, y -> y.cellOf(6));
        refuse(what + ", state", x, Check.INDEX, y -> y.state(-1));
        refuse(what + ", trayOf", x, Check.INDEX, y -> y.trayOf(6));
        refuse(what + ", asked", x, Check.INDEX, y -> y.asked(-1));
        refuse(what + ", pickedFrom", x, Check.INDEX, y -> y.pickedFrom(1500));
        refuse(what + ", pickedFor", x, Check.INDEX, y -> y.pickedFor(-1));
        refuse(what + ", pickedIn", x, Check.INDEX, y -> y.pickedIn(1500));
    }

    private static void refuseArguments(String what, ShelfSwarm x) {
        refuse(what + ", wall", x, Check.ARGUMENT, y -> {
            y.wall(64);
            return 0;
        });
        refuse(what + ", setClosed", x, Check.ARGUMENT, y -> y.setClosed(-1, true) ? 1 : 0);
        refuse(what + ", distance", x, Check.ARGUMENT, y -> y.distance(0, 64));
        refuse(what + ", addStation", x, Check.ARGUMENT, y -> y.addStation(-1));
        refuse(what + ", addTray", x, Check.ARGUMENT, y -> y.addTray(40, 6, 1));
        refuse(what + ", addRobot", x, Check.ARGUMENT, y -> y.addRobot(40, 10));
        refuse(what + ", robotIn", x, Check.ARGUMENT, y -> y.robotIn(64));
        refuse(what + ", tick", x, Check.ARGUMENT, y -> y.tick(51));
        refuse(what + ", stock", x, Check.ARGUMENT, y -> y.stock(6));
        refuse(what + ", stockByPicks", x, Check.ARGUMENT, y -> y.stockByPicks(-1));
    }
}
