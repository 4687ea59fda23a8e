/** Section 6 (promises 16 to 19, 22): what partitions ask. */
public final class AskTest {
    public static void main(String[] args) {
        making();
        looking();
        numbers();
        fullTable();
        manySecrets();
        farApart();
        inputs();
        inputTerms();
        outputs();
        channels();
        termChannels();
        quotes();
        states();
        Check.end("AskTest");
    }

    private static void making() {
        new Script().ask(13, 1, 77).ask(13, 2, -5).ask(13, 1, 77)
            .ask(14, 3, 1, 2).ask(14, 4, 2, 1).ask(14, 3, 1, 2).ask(14, 5, 1, 1)
            .ask(15, 6, 1).ask(15, 7, 6).ask(16, 8, 1, 2).ask(17, 9, 1).ask(18, 10, 1, 2)
            .ask(19, 11, 1, 2, 3).ask(20, 12, 1, 2).ask(21, 13).ask(21, 14)
            .ask(19, 11, 1, 2, 3).ask(19, 15, 1, 3, 2).ask(20, 12, 1, 2).ask(15, 6, 1)
            .ask(22, 0, 1).ask(22, 3, 3).ask(22, 4, 6).ask(22, 5, 8).ask(22, 6, 9).ask(22, 7, 10)
            .ask(22, 8, 11).ask(22, 9, 12).ask(22, 2, 13).ask(22, -2, 16).ask(22, -2, 0).ask(22, -2, -1)
            .ask(14, -2, 0, 1).ask(14, -2, 1, 0).ask(14, -2, 1, 16).ask(15, -2, 16).ask(16, -2, -1, 1)
            .ask(17, -2, 0).ask(18, -2, 1, 99).ask(19, -2, 1, 1, 0).ask(19, -2, 1, 0, 1).ask(19, -2, 0, 1, 1)
            .ask(20, -2, 1, 101).ask(13, 16, 0)
            .runs();
    }

    private static void looking() {
        // 1, 2 NUMBERS; 3 PAIR; 4 SIGNED; 5 PUBLIC; 6 CLOSED; 7 SIGNED by another; 8 KEYED.
        new Script().ask(13, 1, 10).ask(13, 2, 20).ask(14, 3, 1, 2).ask(18, 4, 1, 3).ask(17, 5, 1)
            .ask(19, 6, 1, 2, 3).ask(18, 7, 2, 3).ask(16, 8, 1, 2)
            .ask(24, 1, 3).ask(25, 2, 3).ask(24, -3, 4).ask(25, -3, 6).ask(24, -2, 9).ask(25, -2, 0)
            .ask(26, 3, 4).ask(26, -3, 3).ask(26, -3, 8).ask(26, -2, 9)
            .ask(27, 1, 5, 4).ask(27, 0, 5, 7).ask(27, 0, 4, 5).ask(27, 0, 5, 8).ask(27, 0, 1, 4)
            .ask(27, -2, 9, 4).ask(27, -2, 5, 9).ask(27, -2, 0, 0)
            .ask(28, 3, 1, 6).ask(28, -3, 2, 6).ask(28, -3, 1, 8).ask(28, -3, 1, 4).ask(28, -3, 3, 6)
            .ask(28, -2, 1, 9).ask(28, -2, 9, 6)
            .runs();
        // What is taken out comes into the table, though it was never in it.
        String from = new Script().silent(13, 10).silent(13, 20).silent(14, 1, 2).silent(18, 3, 3)
            .does("add r2, r1, r0").does("addi r1, r0, 0").does("ask 9").image();
        String to = new Script().silent(0).ask(10, 1, 0).ask(26, 2, 1).ask(24, 3, 2).ask(25, 4, 2)
            .ask(23, 10, 3).ask(23, 20, 4).image();
        PartHouse x = Check.booted(new int[] {2, 0, 64, 0, 64, 64, 0, 1, 0, 1, 1, 2, 0, 50, 1, 50}, from, to);
        x.run(200);
        Check.due("the last output", x.output(1, 5, 1), 20);
        Check.due("handles", x.state(1, 6), 4);
    }

    private static void numbers() {
        new Script().ask(13, 1, -7).does("addi r2, r0, 9").ask(23, -7, 1).out(2, 1)
            .ask(15, 2, 1).does("addi r2, r0, 9").ask(23, 0, 2).out(2, 0)
            .does("addi r2, r0, 9").ask(23, 0, 55).out(2, 0).ask(23, 0, 0).out(2, 0)
            .does("addi r2, r0, 9").ask(22, -2, 3).out(2, 9)
            .runs();
    }

    private static void fullTable() {
        Script s = new Script().does("ask 21");
        for (int i = 2; i <= 100; i++) {
            s.does("ask 15");
        }
        s.ask(15, -4, 100).ask(15, 100, 99).ask(15, -2, 101).ask(13, -4, 5).ask(21, -4).ask(14, -4, 1, 2).ask(30, -4, 1)
            .ask(29, -4).ask(31, -4).ask(22, 4, 100).ask(12, -4).ask(12, -4).ask(32, 1, 0, 100).ask(33, 100, 0)
            .ask(24, -3, 5).ask(24, -2, 0).ask(34, 1, 0);
        PartHouse x = Check.booted(new int[] {1, 0, 2048, 3, 0, 1, 0, 1000}, s.image());
        Check.due("make", x.make(0, 5, 0, 0), 1);
        Check.due("inputTerm", x.inputTerm(0, 1), 1);
        x.run(s.ticks());
        s.check(x, 0);
        Check.due("handles", x.state(0, 6), 100);
        Check.due("it waits yet", x.state(0, 9), 1);
    }

    private static void manySecrets() {
        PartHouse x = Check.booted(Check.alone(0), "ask 21\njump r0, -1");
        x.run(199);
        Check.due("100 SECRETS", x.state(0, 6), 100);
        Check.due("the last", x.register(0, 1), 100);
        x.run(2);
        Check.due("no more", x.register(0, 1), -4);
        Check.due("others all", x.same(0, 1, 0, 2) + x.same(0, 99, 0, 100) + x.same(0, 1, 0, 100), 0);
        Check.due("purge", x.purge(0), 1);
    }

    /** TERMS that came up far apart find their HANDLES all the same. */
    private static void farApart() {
        PartHouse x = Check.booted(Check.alone(0), "ask 12\nask 6\njump r0, -2");
        for (int i = 1; i <= 600; i++) {
            x.make(0, 1000 + i, 0, 0);
        }
        int[] handles = {1, 257, 513, 2, 258, 514, 257, 513, 1, 514, 2, 258, 3, 259, 256, 512, 259, 3, 512, 256};
        int[] wants = {1, 2, 3, 4, 5, 6, 2, 3, 1, 6, 4, 5, 7, 8, 9, 10, 8, 7, 10, 9};
        for (int h : handles) {
            x.inputTerm(0, h);
        }
        x.run(60);
        for (int i = 0; i < wants.length; i++) {
            Check.due("handle " + i, x.output(0, i, 1), wants[i]);
            Check.due("the same " + i, x.same(0, wants[i], -1, handles[i]), 1);
        }
    }

    private static void inputs() {
        Script s = new Script().does("addi r2, r0, 5").ask(5, 0, 9).out(2, 0).ask(5, 0).out(2, 0);
        PartHouse x = Check.booted(Check.alone(0), "addi r2, r0, 5\nask 5\nask 6\nadd r1, r2, r0\nask 6\njump r0, -5");
        Check.due("no such partition", x.input(1, 5), -1);
        Check.due("no such partition", x.input(-1, 5), -1);
        x.run(6);
        Check.due("nothing waits", x.output(0, 0, 1) * 10 + x.output(0, 1, 1), 0);
        for (int i = 1; i <= 64; i++) {
            Check.due("input", x.input(0, -i), i);
        }
        Check.due("65", x.input(0, 7), -4);
        Check.due("waiting", x.state(0, 8), 64);
        x.run(6);
        Check.due("the longest waiting", x.output(0, 2, 1), -1);
        Check.due("r2", x.output(0, 3, 1), 1);
        Check.due("waiting", x.state(0, 8), 63);
        Check.due("input", x.input(0, 99), 64);
        x.run(6 * 63);
        Check.due("the 64th", x.output(0, 128, 1), -64);
        x.run(6);
        Check.due("the last", x.output(0, 130, 1), 99);
        x.run(6);
        Check.due("none", x.output(0, 132, 1) + x.output(0, 133, 1), 0);
        x.off();
        Check.due("OFF", x.input(0, 1), -3);
        Check.due("none such before OFF", x.input(1, 1), -1);
        x.boot();
        Check.due("a boot empties", x.state(0, 8), 0);
        s.runs();
    }

    private static void inputTerms() {
        Script s = new Script().ask(12, 0).silent(0).ask(12, 1).ask(12, 2).ask(12, 1).ask(12, 0)
            .ask(22, 0, 1).ask(23, 66, 1).ask(22, 2, 2);
        PartHouse x = Check.booted(new int[] {1, 0, 2048, 3, 0, 1, 0, 10}, s.image());
        Check.due("no handle", x.inputTerm(0, 1), -1);
        x.make(0, 66, 0, 0);
        x.make(2, 0, 0, 0);
        Check.due("no handle", x.inputTerm(0, 3), -1);
        Check.due("no handle", x.inputTerm(0, 0), -1);
        Check.due("no partition", x.inputTerm(1, 1), -1);
        x.run(10);
        Check.due("first", x.inputTerm(0, 1), 1);
        Check.due("second", x.inputTerm(0, 2), 2);
        Check.due("third", x.inputTerm(0, 1), 3);
        Check.due("waiting", x.state(0, 9), 3);
        x.run(s.ticks() + 10);
        s.check(x, 0);
        Check.due("waiting", x.state(0, 9), 0);
        for (int i = 1; i <= 64; i++) {
            Check.due("inputTerm", x.inputTerm(0, 1), i);
        }
        Check.due("65", x.inputTerm(0, 1), -4);
        x.off();
        Check.due("OFF", x.inputTerm(0, 1), -3);
        Check.due("no handle before OFF", x.inputTerm(0, 9), -1);
    }

    private static void outputs() {
        PartHouse x = Check.booted(Check.alone(0), "ask 21\nadd r5, r1, r0\nx: add r1, r5, r0\nask 11\naddi r6, r6, 1\n"
            + "add r1, r6, r0\nask 6\nadd r7, r1, r0\njump r0, x");
        x.run(2 + 7 * 100);
        Check.due("outputs", x.state(0, 7), 200);
        Check.due("answer", x.register(0, 7), 0);
        x.run(2);
        Check.due("no room for a TERM", x.register(0, 1), -4);
        x.run(3);
        Check.due("no room for a word", x.register(0, 1), -4);
        Check.due("outputs", x.state(0, 7), 200);
        Check.due("a TERM", x.output(0, 0, 0), 1);
        Check.due("a word", x.output(0, 1, 0), 0);
        Check.due("the word", x.output(0, 199, 1), 100);
        Check.due("not told yet", x.told(6), 0);
        Check.due("its handle", x.output(0, 198, 1), 1);
        Check.due("the same", x.output(0, 0, 1), 1);
        Check.due("told", x.told(6), 1);
        Check.due("none such", x.output(0, 200, 0), -1);
        Check.due("none such", x.output(0, -1, 0), -1);
        Check.due("none such", x.output(1, 0, 0), -1);
        Check.due("none such first", x.output(0, 200, 7), -1);
        Check.due("another what", x.output(0, 0, 2), -2);
        Check.due("another what", x.output(0, 0, -1), -2);
        new Script().ask(11, -2, 1).ask(11, -2, 0).ask(13, 1, 4).ask(11, 0, 1).ask(11, -2, 2).runs();
    }

    private static void channels() {
        String from = new Script().ask(7, -1, 2, 64).ask(7, -1, -1, 64).ask(7, -1, 1, 64).ask(7, -2, 0, 66)
            .ask(7, -2, 0, 512).ask(7, -2, 0, 504).ask(7, -2, 0, -4).ask(7, -1, 5, 3).ask(7, 0, 0, 500).silent(0)
            .does("addi r5, r0, 8").does("stw r5, r0, 500").ask(7, 0, 0, 500).ask(7, 0, 0, 496).image() + "\n";
        String to = new Script().ask(8, -1, 1, 64).ask(8, -2, 0, 2).ask(8, -2, 0, 504).ask(8, 1, 0, 400)
            .ask(8, 0, 0, 400).silent(0).ask(8, 1, 0, 400).ask(8, 0, 0, 440).image();
        int[] config = {2, 0, 128, 0, 128, 128, 0, 2, 0, 1, 3, 1, 0, 16, 3, 0, 60, 1, 60, 255, 5};
        PartHouse x = Check.booted(config, from, to);
        Check.due("a channel", x.channel(0, 0) * 100 + x.channel(0, 1) * 10 + x.channel(0, 2), 13);
        Check.due("a channel", x.channel(1, 0) * 1000 + x.channel(1, 1) * 100 + x.channel(1, 2), 1016);
        Check.due("nothing sent", x.channel(0, 3) + x.channel(0, 4) + x.channel(0, 5), 0);
        Check.due("none such", x.channel(2, 0), -1);
        Check.due("none such", x.channel(-1, 0), -1);
        Check.due("none such first", x.channel(2, 21), -1);
        Check.due("what", x.channel(0, -1), -2);
        Check.due("what", x.channel(0, 21), -2);
        Check.due("what", x.channel(0, 20), 0);
        x.run(60);
        Check.due("sent", x.channel(0, 3), 1);
        Check.due("no TERM", x.channel(0, 4), 0);
        x.run(60);
        Check.due("received", x.channel(0, 3), 0);
        Check.due("a word of it", x.memory(1, 100), 0);
        x.run(65);
        Check.due("sent again", x.channel(0, 3), 1);
        Check.due("words", x.channel(0, 5) * 100 + x.channel(0, 6) * 10 + x.channel(0, 7), 80);
        Check.due("no word 3", x.channel(0, 8), 0);
        x.run(60);
        Check.due("received", x.memory(1, 101), 8);
        Check.due("received again", x.memory(1, 111), 8);
        Check.due("the word behind stays", x.memory(1, 103) + x.memory(1, 113), 0);
        Check.due("sent words stay", x.channel(0, 6), 8);
        int[] sent = {-1, -1, -1, -2, -2, -2, -2, -1, 0, 0, 0};
        int[] got = {-1, -2, -2, 1, 0, 1, 0};
        for (int i = 0; i < sent.length; i++) {
            Check.due("send " + i, x.output(0, i, 1), sent[i]);
        }
        for (int i = 0; i < got.length; i++) {
            Check.due("receive " + i, x.output(1, i, 1), got[i]);
        }
        nothingSent();
        wholeRegion();
        noChannel();
    }

    private static void wholeRegion() {
        String from = new Script().ask(7, 0, 0, 0).ask(7, -2, 0, 4).image();
        String to = "addi r2, r0, 0\nask 8\njump r0, 0";
        PartHouse x = Check.booted(new int[] {2, 0, 16, 0, 16, 16, 0, 1, 0, 1, 16, 2, 0, 50, 1, 2}, from, to);
        x.run(50);
        Check.due("a REGION that is sent whole", x.output(0, 0, 1), 0);
        Check.due("not from the next word on", x.output(0, 1, 1), -2);
        Check.due("word 15", x.channel(0, 20), x.memory(0, 15));
        Check.due("word 0", x.channel(0, 5), 12 << 26 | 1 << 22);
        x.run(2);
        for (int i = 0; i < 16; i++) {
            Check.due("received " + i, x.memory(1, i), x.memory(0, i));
        }
        Check.due("received", x.register(1, 1), 1);
    }

    private static void noChannel() {
        String none = new Script().ask(7, -1, 0, 0).ask(8, -1, 0, 0).ask(9, -1, 0, 1).ask(10, -1, 0).ask(8, -1, 16, 0).ask(8, -1, -1, 0)
            .ask(7, -1, 16, 0).ask(10, -1, 1000).image();
        PartHouse x = Check.booted(new int[] {1, 0, 64, 0, 0, 1, 0, 1000}, none);
        x.run(50);
        for (int i = 0; i < 8; i++) {
            Check.due("no channel, ask " + i, x.output(0, i, 1), -1);
        }
        // A boot begins with nothing sent.
        String send = "ask 7\nask 13\nadd r2, r1, r0\nadd r1, r0, r0\nask 9\nask 0";
        x = Check.booted(new int[] {2, 0, 16, 0, 16, 16, 0, 1, 0, 1, 2, 1, 0, 50}, send, "back");
        x.run(5);
        Check.due("sent", x.channel(0, 3) * 10 + x.channel(0, 4), 11);
        Check.due("a word", x.channel(0, 5), x.memory(0, 0));
        x.off();
        Check.due("OFF", x.channel(0, 3) * 10 + x.channel(0, 4), 11);
        x.boot();
        Check.due("a boot empties", x.channel(0, 3) + x.channel(0, 4) + x.channel(0, 5) + x.channel(0, 6), 0);
    }

    private static void nothingSent() {
        String text = "addi r5, r0, 7\nstw r5, r0, 100\nstw r5, r0, 104\naddi r2, r0, 100\naddi r1, r0, 0\nask 8\njump r0, 0";
        PartHouse x = Check.booted(new int[] {2, 0, 64, 0, 64, 64, 0, 1, 1, 0, 1, 1, 0, 50}, text, "back");
        x.run(20);
        Check.due("nothing sent", x.register(0, 1), 0);
        Check.due("words 0", x.memory(0, 25), 0);
        Check.due("the next one stays", x.memory(0, 26), 7);
    }

    private static void termChannels() {
        String from = new Script().ask(9, -1, 1, 1).ask(9, -1, 2, 1).ask(9, -2, 0, 1).ask(9, -1, 1, 9).ask(13, 1, 33)
            .ask(9, 0, 0, 1).silent(0).ask(15, 2, 1).ask(9, 0, 0, 2).ask(9, -2, 0, 3).image();
        String to = new Script().ask(10, -1, 1).ask(10, -1, -1).ask(10, 1, 0).ask(10, 1, 0).silent(0)
            .ask(10, 2, 0).ask(10, 2, 0).ask(22, 4, 2).ask(8, 0, 0, 400).image();
        int[] config = {2, 0, 128, 0, 128, 128, 0, 2, 0, 1, 3, 1, 0, 16, 2, 0, 60, 1, 60};
        PartHouse x = Check.booted(config, from, to);
        x.run(60);
        Check.due("a TERM was sent", x.channel(0, 4) * 10 + x.channel(0, 3), 10);
        Check.due("none on the other", x.channel(1, 4), 0);
        x.run(180);
        Check.due("ever", x.channel(0, 4), 1);
        int[] sent = {-1, -1, -2, -1, 1, 0, 2, 0, -2};
        int[] got = {-1, -1, 1, 1, 2, 2, 4, 0};
        for (int i = 0; i < sent.length; i++) {
            Check.due("send " + i, x.output(0, i, 1), sent[i]);
        }
        for (int i = 0; i < got.length; i++) {
            Check.due("receive " + i, x.output(1, i, 1), got[i]);
        }
        Check.due("the same", x.same(0, 2, 1, 2), 1);
        x = Check.booted(config, "back", "addi r1, r0, 0\nask 10\nback");
        x.run(120);
        Check.due("none was sent", x.register(1, 1), 0);
        Check.due("no handle", x.state(1, 6), 0);
    }

    private static void quotes() {
        PartHouse x = new Script().ask(29, 1).ask(29, 1).ask(13, 2, 5).ask(30, 3, 2).ask(30, 3, 2).ask(31, 4).ask(27, 1, 4, 3)
            .ask(26, 5, 3).ask(24, 1, 5).ask(25, 2, 5).ask(22, 4, 1).ask(22, 7, 3).ask(22, 6, 4).ask(30, -2, 0)
            .ask(30, -2, 6).runs();
        Check.due("measure", x.measure(0), 1);
        Check.due("is R(p)", x.same(0, 1, -1, 1), 1);
        Check.due("measure(1)", x.measure(1), -1);
        Check.due("measure(-1)", x.measure(-1), -1);
        Check.due("kind", x.kind(1), 4);
    }

    private static void states() {
        PartHouse x = Check.booted(Check.alone(0), "back");
        Check.due("none such", x.state(1, 0), -1);
        Check.due("none such", x.state(-1, 0), -1);
        Check.due("none such first", x.state(1, 11), -1);
        Check.due("another what", x.state(0, 11), -2);
        Check.due("another what", x.state(0, -1), -2);
        for (int what = 0; what <= 10; what++) {
            Check.due("state " + what, x.state(0, what), 0);
        }
    }
}
