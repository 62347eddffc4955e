/** Promise 1: x x on each shelf of a new object; and objects share nothing. */
public final class NewObjectTest {
    public static void main(String[] args) {
        Due due = new Due();
        RingForms used = new RingForms();
        for (int shelf = 0; shelf < 4; shelf++) {
            used.form(shelf, 5, 2, 3, 5, 7, -11);
        }
        used.measure(2, 1, 2, 3);
        RingForms fresh = new RingForms();
        for (int shelf = 0; shelf < 4; shelf++) {
            String of = "(" + shelf + ") of a new object";
            due.is("count" + of, fresh.count(shelf, 0), 1);
            due.is("above" + of, fresh.count(shelf, 1), 1);
            due.is("at" + of, fresh.at(shelf, 0), 1);
            due.is("at 1" + of, fresh.at(shelf, 1), 0);
            due.is("D" + of, fresh.whole(shelf, 0), 1);
            due.is("FREE" + of, fresh.whole(shelf, 1), 1);
            due.is("hold" + of, fresh.hold(shelf, 2), 1);
            due.is("nought" + of, fresh.nought(shelf), 0);
            due.is("bars" + of, fresh.bars(shelf), 2);
            due.is("takes 4" + of, fresh.takes(shelf, 4), 1);
            due.is("takes 2" + of, fresh.takes(shelf, 2), 0);
            due.is("takes -4" + of, fresh.takes(shelf, -4), 0);
            due.is("many" + of, fresh.many(shelf), RingForms.BAD);
            due.is("alike" + of, fresh.alike(shelf, 0), 1);
            due.is("the used object's count" + of, used.count(shelf, 0), 5);
        }
        due.is("trace of a new object", fresh.trace(), 0);
        due.is("trace of the used object", used.trace(), 111);
        due.end();
    }
}
