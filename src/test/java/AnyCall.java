/** Every call of the face by a number. */
final class AnyCall {
    static final int CALLS = 46;

    static int make(ThreeTiers x, int call, int a, int b, int c, int d) {
        switch (call) {
            case 0: return x.feed(a, b, c, d, a);
            case 1: return x.end(a);
            case 2: return x.fault(a);
            case 3: return x.piece(a, b);
            case 4: return x.guest(a, b);
            case 5: return x.worth(a, b);
            case 6: return x.slip(a, b, c);
            case 7: return x.cut(a, b, c);
            case 8: return x.give(a, b);
            case 9: return x.back(a);
            case 10: return x.exchange(a, b);
            case 11: return x.undo() ? 1 : 0;
            case 12: return x.redo() ? 1 : 0;
            case 13: return x.feeds(a);
            case 14: return x.served();
            case 15: return x.next(a);
            case 16: return x.envies(a);
            case 17: return x.quarrel();
            case 18: return x.calm(a);
            case 19: return x.halve(a, b, c, d);
            case 20: return x.share(a, b, c);
            case 21: return x.picks();
            case 22: return x.order();
            case 23: return x.grid(a, b, c);
            case 24: return x.ways(a, b);
            case 25: return x.most(a, b);
            case 26: return x.room(a);
            case 27: return x.best(a);
            case 28: return x.where(a, b, c);
            case 29: return x.hungry();
            case 30: return x.law(a);
            case 31: return x.left();
            case 32: return x.iced(a);
            case 33: return x.come(a, b);
            case 34: return x.lies(a);
            case 35: return x.sized(a, b > 3);
            case 36: return x.rimmed(a, b > 3);
            case 37: return x.untell(a) ? 1 : 0;
            case 38: return x.later(a);
            case 39: return x.fits(a);
            case 40: return x.sure(a, b);
            case 41: return x.ask(a, b);
            case 42: return x.image(a);
            case 43: return x.restore(a);
            case 44: return x.about(a);
            // A new cake seldom, so that the others have something to look at.
            default: return a == 5 && b == 5 ? x.cake() : 0;
        }
    }

    private AnyCall() {
    }
}
