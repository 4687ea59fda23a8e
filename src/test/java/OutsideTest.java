/** Promises 23 to 29 and 32: the OUTSIDE's TABLE. */
public final class OutsideTest {
    public static void main(String[] args) {
        making();
        taking();
        limit();
        measures();
        sameness();
        Check.end("OutsideTest");
    }

    private static void making() {
        PartHouse x = new PartHouse();
        Check.due("a NUMBER", x.make(0, -9, 5, 5), 1);
        Check.due("the same NUMBER", x.make(0, -9, 0, 0), 1);
        Check.due("a SECRET", x.make(2, -1, -1, -1), 2);
        Check.due("another SECRET", x.make(2, 0, 0, 0), 3);
        Check.due("PAIR", x.make(3, 1, 2, -1), 4);
        Check.due("PAIR", x.make(3, 2, 1, 99), 5);
        Check.due("HASH", x.make(4, 1, 0, 0), 6);
        Check.due("KEYED", x.make(5, 1, 2, 0), 7);
        Check.due("PUBLIC", x.make(6, 1, 77, 0), 8);
        Check.due("SIGNED", x.make(7, 1, 2, 0), 9);
        Check.due("CLOSED", x.make(8, 1, 2, 3), 10);
        Check.due("CLOSED", x.make(8, 1, 3, 2), 11);
        Check.due("DERIVED", x.make(9, 1, 2, 0), 12);
        Check.due("PAIR again", x.make(3, 1, 2, 5), 4);
        Check.due("CLOSED again", x.make(8, 1, 2, 3), 10);
        Check.due("HASH again", x.make(4, 1, 5, 6), 6);
        int[] kinds = {0, 2, 2, 3, 3, 4, 5, 6, 7, 8, 8, 9};
        for (int h = 1; h <= 12; h++) {
            Check.due("kind " + h, x.kind(h), kinds[h - 1]);
            Check.due("number " + h, x.number(h), h == 1 ? -9 : 0);
        }
        Check.due("kind(0)", x.kind(0), -1);
        Check.due("kind(13)", x.kind(13), -1);
        Check.due("number(0)", x.number(0), 0);
        Check.due("number(13)", x.number(13), 0);
        Check.due("number(-1)", x.number(-1), 0);
        for (int kind = 3; kind <= 9; kind++) {
            Check.due("no first, kind " + kind, x.make(kind, 0, 1, 1), -1);
            Check.due("no first, kind " + kind, x.make(kind, 99, 1, 1), -1);
            boolean one = kind == 4 || kind == 6;
            Check.due("no second, kind " + kind, x.make(kind, 12, 99, 1) > 0 ? 1 : -1, one ? 1 : -1);
        }
        Check.due("no third", x.make(8, 1, 1, 99), -1);
        Check.due("a ROW", x.make(1, 1, 1, 1), -2);
        Check.due("kind 10", x.make(10, 1, 1, 1), -2);
        Check.due("kind -1", x.make(-1, 99, 1, 1), -2);
        Check.due("told(6)", x.told(6), 14);
    }

    private static void taking() {
        PartHouse x = new PartHouse();
        x.make(2, 0, 0, 0);
        x.make(0, 5, 0, 0);
        x.make(4, 2, 0, 0);
        Check.due("PAIR", x.make(3, 1, 2, 0), 4);
        Check.due("SIGNED", x.make(7, 1, 2, 0), 5);
        Check.due("CLOSED", x.make(8, 1, 2, 3), 6);
        Check.due("KEYED", x.make(5, 1, 2, 0), 7);
        Check.due("first", x.take(4, 0, 0), 1);
        Check.due("second", x.take(4, 1, -5), 2);
        Check.due("a of SIGNED", x.take(5, 2, 0), 2);
        Check.due("n of CLOSED", x.take(6, 3, 0), 2);
        Check.due("a of CLOSED", x.take(6, 4, 1), 3);
        Check.due("another key", x.take(6, 4, 2), -3);
        Check.due("no key", x.take(6, 4, 8), -1);
        Check.due("no key", x.take(6, 4, 0), -1);
        Check.due("not CLOSED", x.take(7, 4, 1), -3);
        Check.due("not CLOSED", x.take(5, 4, 1), -3);
        Check.due("not CLOSED", x.take(4, 3, 1), -3);
        Check.due("not a PAIR", x.take(5, 0, 0), -3);
        Check.due("not a PAIR", x.take(2, 1, 0), -3);
        Check.due("not SIGNED", x.take(4, 2, 0), -3);
        Check.due("not SIGNED", x.take(7, 2, 0), -3);
        Check.due("no handle", x.take(8, 0, 0), -1);
        Check.due("no handle", x.take(0, 5, 0), -1);
        Check.due("what", x.take(4, 5, 0), -2);
        Check.due("what", x.take(4, -1, 0), -2);
    }

    private static void limit() {
        // The outside may have 600, and no call but 512: a partition's TERMS go out and are told in one call each.
        PartHouse x = new PartHouse();
        for (int i = 1; i <= 600; i++) {
            x.make(0, i, 0, 0);
        }
        Check.due("600", x.told(6), 600);
        Check.due("601", x.make(0, 601, 0, 0), -4);
        Check.due("a SECRET", x.make(2, 0, 0, 0), -4);
        Check.due("a HASH", x.make(4, 1, 0, 0), -4);
        Check.due("no handle before no room", x.make(4, 601, 0, 0), -1);
        Check.due("one that is there", x.make(0, 600, 0, 0), 600);
        Check.due("number", x.number(600), 600);
        Check.keepRow(x, 8, 1);
        Check.keepRow(x, 9, Check.alone(1));
        Check.keepText(x, 0, "ask 21\nask 11\nadd r2, r1, r0\naddi r2, r0, 1\nask 32\nadd r5, r1, r0\n"
            + "addi r1, r0, 7\nask 13\nask 11\njump r0, 0");
        x.boot();
        x.run(20);
        Check.due("sealed", x.register(0, 5), 1);
        Check.due("a TERM that went out", x.output(0, 0, 0), 1);
        Check.due("no room", x.output(0, 0, 1), -4);
        Check.due("one that is there", x.output(0, 1, 1), 7);
        Check.due("measure", x.measure(0), -4);
        Check.due("block", x.block(1, 0), 1);
        Check.due("block", x.block(1, 1), -4);
        Check.due("it is known all the same", x.knows(0, 1), 1);
        PartHouse y = new PartHouse();
        y.make(0, 0, 0, 0);
        y.make(3, 1, 1, 0);
        for (int i = 1; i <= 598; i++) {
            y.make(0, i, 0, 0);
        }
        Check.due("take of one that is there", y.take(2, 0, 0), 1);
    }

    private static void measures() {
        String spin = "x: jump r0, x";
        int[] two = {2, 0, 16, 0, 16, 16, 0, 0, 1, 0, 9};
        PartHouse x = Check.booted(two, spin, spin);
        Check.due("R(0)", x.measure(0), 1);
        Check.due("R(1) is another", x.measure(1), 2);
        Check.due("R(0) again", x.measure(0), 1);
        x.off();
        x.boot();
        Check.due("the same boot again", x.measure(0) * 10 + x.measure(1), 12);
        x.off();
        Check.keepText(x, 1, "back");
        x.boot();
        Check.due("another image of 1", x.measure(0) * 10 + x.measure(1), 13);
        x.off();
        Check.keepText(x, 1, spin);
        x.boot();
        Check.due("the first one", x.measure(0) * 10 + x.measure(1), 12);
        x.off();
        Check.keepRow(x, 8, 1, 2, 4);
        x.boot();
        Check.due("another loader", x.measure(0) * 10 + x.measure(1), 45);
        x.off();
        Check.keepRow(x, 8, 1, 2, 3, 0);
        x.boot();
        Check.due("a longer loader", x.measure(0), 6);
        x.off();
        Check.keepRow(x, 8, 1, 2, 3);
        Check.keepRow(x, 9, 2, 0, 16, 0, 16, 16, 0, 0, 1, 0, 10);
        x.boot();
        Check.due("another config", x.measure(0), 7);
        x.off();
        Check.keepRow(x, 8, 0, 31);
        x.boot();
        x.off();
        Check.due("another loader", x.measure(0), 8);
        Check.keepRow(x, 8, 1, 0);
        Check.due("of the latest boot", x.measure(0), 8);
        x.boot();
        Check.due("a loader that differs in order alone", x.measure(0), 9);
        x.off();
        Check.due("of the latest boot", x.measure(1), 10);
        Check.due("none such", x.measure(2), -1);
    }

    private static void sameness() {
        String text = new Script().silent(13, 5).silent(15, 1).silent(21).image();
        PartHouse x = Check.booted(new int[] {2, 0, 64, 0, 64, 64, 0, 0, 2, 0, 20, 1, 20}, text, text);
        x.run(40);
        x.make(0, 5, 0, 0);
        Check.due("NUMBERS", x.same(0, 1, 1, 1), 1);
        Check.due("NUMBERS", x.same(0, 1, -1, 1), 1);
        Check.due("HASHES", x.same(0, 2, 1, 2), 1);
        Check.due("SECRETS", x.same(0, 3, 1, 3), 0);
        Check.due("a SECRET and itself", x.same(0, 3, 0, 3), 1);
        Check.due("others", x.same(0, 1, 0, 2), 0);
        Check.due("none such", x.same(0, 4, 0, 1), -1);
        Check.due("none such", x.same(0, 1, 0, 0), -1);
        Check.due("none such", x.same(2, 1, 0, 1), -1);
        Check.due("none such", x.same(0, 1, -2, 1), -1);
        Check.due("none such", x.same(-1, 2, -1, 1), -1);
        x.off();
        Check.due("OFF", x.same(0, 3, 1, 3), 0);
        x.boot();
        Check.due("a boot empties", x.same(0, 1, 1, 1), -1);
    }
}
