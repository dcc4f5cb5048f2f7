/**
 * "What is refused answers as told and changes nothing.", once for every call that can be refused:
 * without a meadow, with something of everything, and with as much of everything as fits.
 */
final class EdgesOfRefusals {
    private static final int NONE = Edges.NONE;
    private static final int HIDDEN = Edges.HIDDEN;
    private static final String SENTENCE = "What is refused answers as told and changes nothing.";
    private static final Edges.Base[] BASES = {EggThrow::new, Edges.BARE, Edges.RICH, Edges.FULL};

    private EdgesOfRefusals() {
    }

    static void hold() {
        tapes();
        told();
        throwsOfTwo();
        pairs();
        films();
        persons();
        seen();
        games();
        oneBehindTheOther();
    }

    /** Calls that are refused whatever the object holds. */
    private static void always(int promise, long answer, Edges.Call... calls) {
        Edges.sentence(promise, SENTENCE);
        for (Edges.Base base : BASES) {
            Edges.refused(base, answer, calls);
        }
    }

    private static void tapes() {
        Edges.sentence(2, SENTENCE);
        Edges.refused(Edges.FULL, NONE, x -> x.feed(1, 0, 0, 0, 0), x -> x.feed(-1, -1, -1, -1, -1));
        always(3, 0, x -> Edges.bit(x.end(-1)), x -> Edges.bit(x.end(161)));
        always(4, -2, x -> x.fault(-1), x -> x.fault(3));
        always(5, NONE, x -> x.text(-1), x -> x.text(1), x -> x.text(2), x -> x.text(3));
    }

    private static void told() {
        always(6, Edges.THROWN, x -> Edges.person(x, -1, 0), x -> Edges.person(x, 6, 0), x -> Edges.person(x, 0, 4));
        always(7, NONE, x -> x.egg(-1, 0), x -> x.egg(6, 0), x -> x.egg(0, 2));
        always(8, 0, x -> Edges.bit(x.law(-2)), x -> Edges.bit(x.law(4)));
        always(9, 0, x -> Edges.bit(x.set(0, 10)), x -> Edges.bit(x.set(1, 2)), x -> Edges.bit(x.set(2, 0)),
                x -> Edges.bit(x.set(3, 61)), x -> Edges.bit(x.set(4, 1)), x -> Edges.bit(x.set(-1, 1)));
        always(10, HIDDEN, x -> x.off(6, 0, 0, 0, 0), x -> x.off(0, 2, 0, 0, 0), x -> x.off(0, 0, 10, 0, 0),
                x -> x.off(0, 0, 0, 6, 0), x -> x.off(0, 0, 0, 0, 6));
        always(11, HIDDEN, x -> x.force(6, 0, 1, 0, 0), x -> x.force(0, 2, 1, 0, 0), x -> x.force(0, 0, 61, 0, 0),
                x -> x.force(0, 0, 1, 10, 0), x -> x.force(0, 0, 1, 0, 100));
    }

    private static void throwsOfTwo() {
        always(12, NONE, x -> x.good(11, 0, 4, 5), x -> x.good(1, 60, 4, 5), x -> x.good(1, 0, 61, 5),
                x -> x.good(1, 0, 4, 11), x -> x.good(1, 0, 4, 1005));
        always(13, HIDDEN, x -> x.best(11, 0, 4, 0), x -> x.best(1, 2, 4, 0), x -> x.best(1, 0, 0, 0),
                x -> x.best(1, 0, 4, 3));
        always(22, NONE, x -> x.arms(11, 0, 4, 5, 1), x -> x.arms(1, 0, 4, 5, 12), x -> x.arms(1, 0, 4, 1005, 1));
        always(26, NONE, x -> x.safe(11, 0), x -> x.safe(1, 60));
        always(27, NONE, x -> x.spots(11, 0, 4, 1), x -> x.spots(1, 0, 61, 1), x -> x.spots(1, 0, 4, 12));
        always(28, NONE, x -> x.legs(11, 0, 4, 5, 1), x -> x.legs(1, 0, 4, 5, 12), x -> x.legs(1, 0, 4, 1005, 1));
        always(39, NONE, x -> x.spare(11, 0, 4), x -> x.spare(1, 2, 4), x -> x.spare(1, 0, 61));
        always(40, NONE, x -> x.least(11, 0, 4, 0), x -> x.least(1, 0, 61, 1), x -> x.least(1, 0, 4, 2));
        always(41, HIDDEN, x -> x.loft(11, 0, 4, 0, 0), x -> x.loft(1, 0, 4, 10, 0), x -> x.loft(1, 0, 4, 0, 2));
    }

    private static void pairs() {
        always(14, NONE, x -> x.comes(11, 0, 1), x -> x.comes(1, 60, 1), x -> x.comes(1, 0, -1));
        always(15, NONE, x -> x.far(11, 0), x -> x.far(1, 2));
        always(16, NONE, x -> x.hope(11, 0), x -> x.hope(1, 2));
        always(17, NONE, x -> x.first(11, 0, 0), x -> x.first(1, 6, 0), x -> x.first(1, 0, 2));
        always(18, NONE, x -> x.whom(2), x -> x.whom(-1));
        always(19, NONE, x -> x.which(11, 0, 0), x -> x.which(1, 2, 0), x -> x.which(1, 0, 2));
        always(23, NONE, x -> x.bold(11, 1, 0, 1, 0), x -> x.bold(1, 11, 0, 1, 0), x -> x.bold(1, 1, 60, 1, 0),
                x -> x.bold(1, 1, 0, 10, 0), x -> x.bold(1, 1, 0, 1, 9));
        always(24, NONE, x -> x.duel(11, 1, 0, 0), x -> x.duel(1, 11, 0, 0), x -> x.duel(1, 1, 6, 0),
                x -> x.duel(1, 1, 0, 2));
        always(25, NONE, x -> x.lot(11, 0), x -> x.lot(1, 2));
        always(29, NONE, x -> x.stride(11, 0, 0), x -> x.stride(1, 2, 0), x -> x.stride(1, 0, 2));
        always(30, NONE, x -> x.rank(6, 0), x -> x.rank(0, 15), x -> x.rank(0, -1));
        always(31, NONE, x -> x.calm(11, 0, 0), x -> x.calm(1, 2, 0), x -> x.calm(1, 0, 2));
        always(32, NONE, x -> x.learn(11, 0, 1, 1), x -> x.learn(1, 0, 61, 0), x -> x.learn(1, 0, 0, Edges.WHOLE + 1),
                x -> x.learn(1, 0, 60, 1));
        always(42, NONE, x -> x.gusty(11, 0, 0), x -> x.gusty(1, 2, 0), x -> x.gusty(1, 0, 10));
    }

    private static void films() {
        always(33, NONE, x -> x.film(4, 0), x -> x.film(0, 2), x -> x.film(-1, 0));
        always(34, NONE, x -> x.raw(4, 0, 0), x -> x.raw(0, 101, 0), x -> x.raw(0, 0, 2));
        always(35, NONE, x -> x.like(4, 0), x -> x.like(0, -1));
    }

    private static void persons() {
        always(36, NONE, x -> x.fete(0, 1, 0), x -> x.fete(1033, 1, 0), x -> x.fete(1032, 1, 2), x -> x.fete(103254, 1, -1));
        always(37, NONE, x -> x.crown(0, 0), x -> x.crown(1032, 1), x -> x.crown(103254, 6));
        always(38, NONE, x -> x.carton(11, 0, 1, 0), x -> x.carton(1, 2, 1, 0), x -> x.carton(1, 0, 7, 0),
                x -> x.carton(1, 0, 0, 0), x -> x.carton(1, 0, 1, 2));
        always(45, NONE, x -> x.chain(0, 0, 4), x -> x.chain(123, 6, 4), x -> x.chain(123, 0, 61));
        always(46, NONE, x -> x.row(6, 4, 0), x -> x.row(0, 61, 0), x -> x.row(0, 4, 2));
    }

    private static void seen() {
        always(20, NONE, x -> x.witness(6, 0, true), x -> x.witness(0, 1000, false), x -> x.witness(0, -1, true));
        always(21, HIDDEN, x -> x.strong(6, 0), x -> x.strong(0, 3), x -> x.strong(-1, 0));
        always(43, NONE, x -> x.measure(6, 400, 0, 5), x -> x.measure(0, 402, 0, 5), x -> x.measure(0, 6100, 0, 5),
                x -> x.measure(0, 400, 100, 5), x -> x.measure(0, 400, 0, 1000));
        Edges.sentence(44, SENTENCE);
        Edges.refused(EggThrow::new, NONE, x -> x.held());
        Edges.refused(Edges.BARE, NONE, x -> x.held());
    }

    private static void games() {
        always(47, NONE, x -> x.game(11, 0, 1), x -> x.game(1, 2, 1), x -> x.game(1, 60, 1), x -> x.game(6, 0, 1));
        always(48, NONE, x -> x.played(-1, 0), x -> x.played(40, 0), x -> x.played(0, 3));
        Edges.Base[] none = {EggThrow::new, Edges.BARE, Edges.ODD};
        for (Edges.Base base : none) {
            Edges.sentence(49, SENTENCE);
            Edges.refused(base, NONE, x -> x.champion());
            Edges.sentence(50, SENTENCE);
            Edges.refused(base, NONE, x -> x.undo());
            Edges.sentence(52, SENTENCE);
            Edges.refused(base, NONE, x -> x.back());
        }
        Edges.sentence(51, SENTENCE);
        Edges.refused(EggThrow::new, NONE, x -> x.image());
        Edges.refused(Edges.BARE, NONE, x -> x.image());
        always(53, HIDDEN, x -> x.count(-1), x -> x.count(13));
    }

    /** A refused call leaves nothing that the next one, refused or not, could stumble over. */
    private static void oneBehindTheOther() {
        Edges.sentence(5, SENTENCE);
        for (Edges.Base base : BASES) {
            Edges.refused(base, 0, x -> {
                x.text(1);
                x.text(2);
                x.end(-1);
                x.law(9);
                x.set(0, 99);
                x.good(11, 0, 4, 5);
                x.best(1, 0, 99, 0);
                x.comes(1, 99, 1);
                x.whom(9);
                x.witness(9, 9, true);
                x.arms(1, 0, 4, 5, 99);
                x.bold(1, 1, 99, 1, 0);
                x.duel(1, 1, 99, 0);
                x.learn(1, 0, 99, 0);
                x.fete(99, 9, 0);
                x.crown(99, 0);
                x.carton(1, 0, 9, 0);
                x.measure(9, 400, 0, 5);
                x.chain(99, 0, 4);
                x.row(9, 4, 0);
                x.game(99, 0, 1);
                return Edges.bit(x.end(161));
            });
        }
    }
}
