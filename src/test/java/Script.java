import java.util.ArrayList;
import java.util.List;

/** A partition's image that asks one thing after the other and puts out each answer, with what is due. */
final class Script {
    private final StringBuilder text = new StringBuilder();
    private final List<String> calls = new ArrayList<>();
    private final List<Integer> wants = new ArrayList<>();
    private int ticks;

    private void line(String statement) {
        text.append(statement).append('\n');
        ticks++;
    }

    /** Any statement of one word. */
    Script does(String statement) {
        line(statement);
        return this;
    }

    /** Asks with r1, r2, .. as given; the answer is due. */
    Script ask(int number, int want, int... registers) {
        silent(number, registers);
        line("ask 6");
        calls.add("ask " + number + " of " + java.util.Arrays.toString(registers));
        wants.add(want);
        return this;
    }

    /** Asks, and puts nothing out. */
    Script silent(int number, int... registers) {
        for (int i = 0; i < registers.length; i++) {
            line("addi r" + (i + 1) + ", r0, " + registers[i]);
        }
        line("ask " + number);
        return this;
    }

    /** Puts out a register. */
    Script out(int register, int want) {
        line("add r1, r" + register + ", r0");
        line("ask 6");
        calls.add("r" + register);
        wants.add(want);
        return this;
    }

    int ticks() {
        return ticks;
    }

    /** The image; at its end it spins. */
    String image() {
        return text + "jump r0, 0";
    }

    /** Whether all that was due went out, and nothing else but TERMS in between. */
    void check(PartHouse x, int p) {
        int at = 0;
        for (int i = 0; i < x.state(p, 7); i++) {
            if (x.output(p, i, 0) == 0) {
                Check.due("output " + at + ", " + (at < calls.size() ? calls.get(at) : "none"),
                    x.output(p, i, 1), at < wants.size() ? wants.get(at) : 12345678);
                at++;
            }
        }
        Check.due("outputs", at, wants.size());
    }

    /** Runs it alone, with an AREA of 3, and checks it. */
    PartHouse runs() {
        PartHouse x = Check.booted(new int[] {1, 0, 2048, 3, 0, 1, 0, 1000}, image());
        Check.due("run", x.run(ticks), ticks);
        check(x, 0);
        return x;
    }
}
