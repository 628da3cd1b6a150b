/** Promise 1: no text in hand, no program. */
public final class P01NewObjectTest {
    public static void main(String[] args) {
        Works.due("NONE", FiberWorks.NONE, -1);
        Works works = new Works();
        Works.due("fault(0)", works.x.fault(0), 0);
        Works.due("fault(1)", works.x.fault(1), -1);
        Works.due("type(0)", works.x.type(0), -1);
        Works.due("effects(-1)", works.x.effects(-1), -1);
        Works.due("effects(0)", works.x.effects(0), -1);
        works.isAt("new", 0, 0, 0, 0, 0, -1);
        Works.due("start()", works.start(), Works.THROWS_STATE);
        Works.due("run(1)", works.run(1), Works.THROWS_STATE);
        works.isAt("after start() was refused", 0, 0, 0, 0, 0, -1);
        Works.due("end(0)", works.x.end(0), 0);
        noTextInHand();
        objectsAreApart();
        Works.finish();
    }

    private static void noTextInHand() {
        Works works = new Works();
        Works.due("read()", works.read(), Works.THROWS_ARGUMENT);
        Works.due("fault(0) of nothing", works.x.fault(0), 1);
        Works.due("fault(1) of nothing", works.x.fault(1), 0);
        works.isAt("nothing was read", 0, 0, 0, 0, 0, -1);
        Works.due("start() then", works.start(), Works.THROWS_STATE);
    }

    private static void objectsAreApart() {
        Works one = Works.begun("1");
        Works other = new Works();
        one.run(0);
        Works.due("state(0) of the other", other.x.state(0), 0);
        Works.due("state(1) of the one", one.x.state(1), 1);
        Works.due("end(0) of the other", other.x.end(0), 0);
    }
}
