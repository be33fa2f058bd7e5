/** A new object has no disk and is dead. */
public final class Promise01NewObjectTest {
    public static void main(String[] args) {
        Check c = new Check();
        SpillQueue q = new SpillQueue();
        c.aboutDue("new", q, 0, 0, 0, 0, 0, 0, 1);
        c.due("size()", q.size(), 0);
        c.dead("insert(1)", () -> q.insert(1));
        c.dead("insert(-1)", () -> q.insert(-1));
        c.dead("min()", () -> q.min());
        c.dead("take()", () -> q.take());
        c.dead("sync()", () -> q.sync());
        c.dead("cutAt(1)", () -> q.cutAt(1));
        c.dead("cutAt(-1)", () -> q.cutAt(-1));
        c.dead("cut()", () -> q.cut());
        c.dead("recover()", () -> q.recover());
        c.dead("run(0, 0)", () -> q.run(0, 0));
        c.dead("run(-1, 9)", () -> q.run(-1, 9));
        c.badIndex("word(0, 0)", () -> q.word(0, 0));
        c.badIndex("spoil(0, 0, 1)", () -> q.spoil(0, 0, 1));
        c.badIndex("about(7)", () -> q.about(7));
        c.aboutDue("still new", q, 0, 0, 0, 0, 0, 0, 1);

        SpillQueue other = new SpillQueue();
        q.format(10, 11, 2, 2);
        q.insert(4);
        c.due("another object's about(6)", other.about(6), 1);
        c.dead("another object's min()", () -> other.min());
        c.end();
    }
}
