/** What an object answers, mixed into one number: two objects in one state have the same. */
final class Answers {
    /** No more than 450 calls. */
    static long of(ShaderReady x) {
        long sum = 0;
        for (int what = 0; what < 13; what++) {
            sum = sum * 31 + x.count(what);
            sum = sum * 31 + x.input(0, what % 8);
            sum = sum * 31 + x.all(what % 7);
            sum = sum * 31 + x.pressure(what % 3);
        }
        for (int v = 0; v < 14; v++) {
            for (int what = 0; what < 11; what++) {
                sum = sum * 31 + x.value(v, what);
            }
            sum = sum * 31 + x.range(v, v % 2);
            sum = sum * 31 + x.order(v);
            sum = sum * 31 + x.place(v, 1);
            sum = sum * 31 + x.place(v, 2);
            sum = sum * 31 + x.kin(v, 1);
            sum = sum * 31 + x.kin(v, 2);
            sum = sum * 31 + x.kin(v, 3);
            sum = sum * 31 + x.at(v, 2);
            sum = sum * 31 + x.clause(v, 3);
            sum = sum * 31 + x.parts(v);
        }
        for (int i = 0; i < x.count(2); i++) {
            sum = sum * 31 + x.shown(i);
            sum = sum * 31 + x.walked(2, i);
            sum = sum * 31 + x.ran(2, i);
        }
        sum = sum * 31 + x.used(0);
        sum = sum * 31 + x.used(1);
        return sum * 31 + x.best();
    }
}
