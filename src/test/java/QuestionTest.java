/** A question leaves nothing behind: each one answers behind any other what it answers alone. */
public final class QuestionTest {
    /** Functions of each kind that come out otherwise by another kind, guard or set of live acts. */
    private static final String[] TEXTS = {"e;p0ab;l1ba0;k20cd", "e;k0ab;p10c;l21da", "e;l0a;k00b;p21"};

    private static final Sentences.CallWith[] OF_FUNCTIONS = {
        (x, f) -> x.ofFunction(f, 0), (x, f) -> x.ofFunction(f, 1), (x, f) -> x.ofFunction(f, 2),
        (x, f) -> x.ofFunction(f, 3), (x, f) -> x.ofFunction(f, 4), (x, f) -> x.step(f, 0),
        (x, f) -> x.run(f, 0), (x, f) -> x.run(f, 1), (x, f) -> x.run(f, 2), (x, f) -> x.run(f, 3),
        (x, f) -> x.performed(f, 0), (x, f) -> x.performed(f, 1), (x, f) -> x.performed(f, 2),
        (x, f) -> x.path(f, 0), (x, f) -> x.path(f, 1), (x, f) -> x.path(f, 2),
        (x, f) -> x.witness(f, 0), (x, f) -> x.witness(f, 1), (x, f) -> x.free(f, 0), (x, f) -> x.free(f, 1),
        (x, f) -> x.free(f, 2), (x, f) -> x.plugs(f), (x, f) -> x.more(f, 0), (x, f) -> x.more(f, 1),
        (x, f) -> x.more(f, 2), (x, f) -> x.kinds(f), (x, f) -> x.guards(f), (x, f) -> x.odds(f, 0, 1),
        (x, f) -> x.odds(f, 4, 0), (x, f) -> x.tell(f), (x, f) -> x.name(f), (x, f) -> x.as(f, 1)
    };

    private static final Sentences.Call[] OTHERS = {
        x -> x.lives(), x -> x.many(0), x -> x.many(1), x -> x.many(2), x -> x.many(3), x -> x.many(4),
        x -> x.day(1, 0, 0, 2, 0), x -> x.day(1, 0, 0, 2, 1), x -> x.day(1, 0, 0, 2, 2), x -> x.day(1, 0, 0, 2, 3),
        x -> x.day(1, 0, 0, 2, 4), x -> x.day(1, 0, 0, 2, 10), x -> x.day(1, 0, 4, 1, 3), x -> x.cell(1, 1, 0)
    };

    private static Sentences.Call question(int k) {
        if (k < OTHERS.length) {
            return OTHERS[k];
        }
        int f = (k - OTHERS.length) % 3;
        return x -> OF_FUNCTIONS[(k - OTHERS.length) / 3].on(x, f);
    }

    private static ActRows made(String text, int live, int out) {
        ActRows x = Checks.with(text);
        x.live(live);
        x.reading(2, out);
        Checks.write(x, 1, 0, 3, 6, 6, 5, 0, 9);
        return x;
    }

    public static void main(String[] args) {
        Checks checks = new Checks();
        int questions = OTHERS.length + 3 * OF_FUNCTIONS.length;
        for (String text : TEXTS) {
            for (int live : new int[] {15, 6, 13}) {
                for (int k = 0; k < questions; k++) {
                    long alone = question(k).on(made(text, live, live % 5));
                    for (int ahead = 0; ahead < questions; ahead++) {
                        ActRows x = made(text, live, live % 5);
                        question(ahead).on(x);
                        checks.due(text + " by " + live + ", " + k + " behind " + ahead, question(k).on(x), alone);
                    }
                }
            }
        }
        checks.end();
    }
}
