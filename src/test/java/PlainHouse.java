import java.util.ArrayList;
import java.util.Arrays;
import java.util.List;

/** The document once more, in its plainest form, for ModelTest: no thought is given to room or time. */
public final class PlainHouse {
    private String text = "";
    private List<Integer> row = new ArrayList<>();
    private int faultPlace = -1;
    private String shownText = "";
    private final List<List<Integer>> kept = new ArrayList<>();
    private final PlainTerms terms = new PlainTerms();
    private final PlainBoot.Block[] disk = new PlainBoot.Block[64];
    /** The latest one; null before. */
    private PlainBoot boot;
    private int boots;
    private int writesBefore;

    public PlainHouse() {
        for (int i = 0; i < 10; i++) {
            kept.add(List.of());
        }
    }

    public int type(long v, int n) {
        if (n < 0 || n > 8) {
            return -2;
        }
        if (n == 0) {
            text = "";
        }
        if (text.length() + n > 6000) {
            return -4;
        }
        StringBuilder more = new StringBuilder();
        for (int i = 0; i < n; i++) {
            more.insert(0, (char) (v >> 8 * i & 255));
        }
        text += more;
        return text.length();
    }

    public int assemble() {
        String assembled = text;
        text = "";
        faultPlace = -1;
        try {
            row = PlainText.assembled(assembled);
            return row.size();
        } catch (PlainText.Fault fault) {
            faultPlace = fault.place;
            return -10 - fault.number;
        }
    }

    public int place() {
        return faultPlace;
    }

    public int feed(int a, int b, int c, int d) {
        if (row.size() > 2044) {
            return -4;
        }
        row.addAll(List.of(a, b, c, d));
        return row.size();
    }

    public int show(int w) {
        shownText = PlainText.shown(w);
        return shownText.length();
    }

    public int shown(int k) {
        return k >= 0 && k < shownText.length() ? shownText.charAt(k) : 0;
    }

    public int drop(int n) {
        if (n < 0 || n > row.size()) {
            return -2;
        }
        row = new ArrayList<>(row.subList(0, row.size() - n));
        return row.size();
    }

    public int word(int i) {
        return i >= 0 && i < row.size() ? row.get(i) : 0;
    }

    public int keep(int what) {
        if (what < 0 || what > 9) {
            return -1;
        }
        if (row.isEmpty() || what == 8 && row.size() > 256 || what == 9 && row.size() > 200) {
            return -2;
        }
        kept.set(what, row);
        row = new ArrayList<>();
        return kept.get(what).size();
    }

    public int safe(int p, int n) {
        if (p < 0 || p > 7 || kept.get(p).isEmpty()) {
            return -1;
        }
        if (n < 16 || n > 2048 || kept.get(p).size() > n) {
            return -2;
        }
        int bad = PlainConfig.leastBad(kept.get(p), n);
        return bad < 0 ? 1 : -100 - bad;
    }

    private boolean isOn() {
        return boot != null && boot.on;
    }

    public int boot() {
        if (isOn() || kept.get(8).isEmpty() || kept.get(9).isEmpty()) {
            return -3;
        }
        PlainConfig config = new PlainConfig(kept.get(9));
        if (config.fault >= 0) {
            return -100 - config.fault;
        }
        for (int p = 0; p < config.regions.size(); p++) {
            if (kept.get(p).isEmpty() || kept.get(p).size() > config.regions.get(p).size()) {
                return -20 - p;
            }
        }
        if (boots == 40) {
            return -4;
        }
        boots++;
        writesBefore += boot == null ? 0 : boot.writes;
        boot = new PlainBoot(terms, config, disk, kept.get(8), kept.get(9), List.copyOf(kept.subList(0, 8)));
        return config.regions.size();
    }

    public int off() {
        if (!isOn()) {
            return -3;
        }
        boot.on = false;
        return boot.ticks;
    }

    public int cut(int n) {
        if (n < 0 || n > 1000) {
            return -2;
        }
        if (!isOn()) {
            return -3;
        }
        boot.writesLeft = n;
        return n;
    }

    public int run(int n) {
        if (n < 0 || n > 2000) {
            return -2;
        }
        if (!isOn()) {
            return -3;
        }
        if (boot.ticks + n > 60000) {
            return -4;
        }
        int over = 0;
        while (over < n && boot.tick()) {
            over++;
        }
        return over;
    }

    private PlainBoot.Part part(int p) {
        return boot != null && p >= 0 && p < boot.parts.length ? boot.parts[p] : null;
    }

    public int input(int p, int w) {
        if (part(p) == null) {
            return -1;
        }
        if (!isOn()) {
            return -3;
        }
        if (part(p).words.size() == 64) {
            return -4;
        }
        boot.input(p, w);
        return part(p).words.size();
    }

    private PlainTerms.Term outside(int h) {
        return h >= 1 && h <= terms.outside.size() ? terms.outside.get(h - 1) : null;
    }

    /** A TERM COMES INTO the OUTSIDE's TABLE. */
    private int tell(PlainTerms.Term t) {
        if (!terms.outside.contains(t)) {
            if (terms.outside.size() == 600) {
                return -4;
            }
            terms.outside.add(t);
        }
        return terms.outside.indexOf(t) + 1;
    }

    public int inputTerm(int p, int h) {
        if (part(p) == null || outside(h) == null) {
            return -1;
        }
        if (!isOn()) {
            return -3;
        }
        if (part(p).terms.size() == 64) {
            return -4;
        }
        boot.input(p, outside(h));
        return part(p).terms.size();
    }

    public int output(int p, int i, int what) {
        if (part(p) == null || i < 0 || i >= part(p).outputs.size()) {
            return -1;
        }
        if (what != 0 && what != 1) {
            return -2;
        }
        if (part(p).outputs.get(i) instanceof PlainTerms.Term t) {
            return what == 0 ? 1 : tell(t);
        }
        return what == 0 ? 0 : (Integer) part(p).outputs.get(i);
    }

    public int state(int p, int what) {
        PlainBoot.Part part = part(p);
        if (part == null) {
            return -1;
        }
        if (what < 0 || what > 10) {
            return -2;
        }
        int[] all = {part.pc, part.halted ? 1 : 0, part.cause, part.where, part.inHandler ? 1 : 0, part.handler,
            part.table.size(), part.outputs.size(), part.words.size(), part.terms.size(), part.seals};
        return all[what];
    }

    public int register(int p, int r) {
        return part(p) == null || r < 0 || r > 15 ? 0 : part(p).registers[r];
    }

    public int memory(int p, int i) {
        return part(p) == null || i < 0 || i >= part(p).octets.length / 4 ? 0 : part(p).word(i);
    }

    public int channel(int c, int what) {
        if (boot == null || c < 0 || c >= boot.config.channels.size()) {
            return -1;
        }
        if (what < 0 || what > 20) {
            return -2;
        }
        PlainConfig.Channel channel = boot.config.channels.get(c);
        if (what >= 5) {
            return boot.sent[c] == null || what - 5 >= channel.length() ? 0 : boot.sent[c][what - 5];
        }
        int[] all = {channel.from(), channel.to(), channel.length(), boot.unread[c] ? 1 : 0, boot.sentTerms[c] == null ? 0 : 1};
        return all[what];
    }

    public int block(int i, int what) {
        if (i < 0 || i > 63) {
            return -1;
        }
        if (what != 0 && what != 1) {
            return -2;
        }
        if (disk[i] == null) {
            return 0;
        }
        return what == 0 ? disk[i].version() : tell(disk[i].term());
    }

    public int put(int i, int version, int h) {
        if (i < 0 || i > 63 || h != 0 && outside(h) == null) {
            return -1;
        }
        if (h != 0 && version < 1) {
            return -2;
        }
        if (isOn()) {
            return -3;
        }
        disk[i] = h == 0 ? null : new PlainBoot.Block(version, outside(h));
        return 0;
    }

    public int make(int kind, int a, int b, int c) {
        if (kind == 0) {
            return tell(terms.number(a));
        }
        if (kind == 2) {
            return tell(terms.secret());
        }
        if (kind < 3 || kind > 9) {
            return -2;
        }
        PlainTerms.Term[] of = {outside(a), outside(b), outside(c)};
        of = Arrays.copyOf(of, PlainTerms.needs(kind));
        if (Arrays.asList(of).contains(null)) {
            return -1;
        }
        return tell(terms.of(kind, of));
    }

    public int take(int h, int what, int key) {
        PlainTerms.Term t = outside(h);
        if (t == null || what == 4 && outside(key) == null) {
            return -1;
        }
        if (what < 0 || what > 4) {
            return -2;
        }
        int[] kinds = {PlainTerms.PAIR, PlainTerms.PAIR, PlainTerms.SIGNED, PlainTerms.CLOSED, PlainTerms.CLOSED};
        int[] parts = {0, 1, 1, 1, 2};
        if (t.kind != kinds[what] || what == 4 && t.parts.get(0) != outside(key)) {
            return -3;
        }
        return tell(t.parts.get(parts[what]));
    }

    public int kind(int h) {
        return outside(h) == null ? -1 : outside(h).kind;
    }

    public int number(int h) {
        return outside(h) == null ? 0 : outside(h).word;
    }

    public int measure(int p) {
        return part(p) == null ? -1 : tell(part(p).measure);
    }

    private PlainTerms.Term held(int p, int h) {
        if (p == -1) {
            return outside(h);
        }
        return part(p) != null && h >= 1 && h <= part(p).table.size() ? part(p).table.get(h - 1) : null;
    }

    public int knows(int p, int h) {
        if (held(p, h) == null) {
            return -1;
        }
        return terms.rounds().containsKey(held(p, h)) ? 1 : 0;
    }

    public int far(int p, int h) {
        if (held(p, h) == null) {
            return -1;
        }
        return terms.rounds().getOrDefault(held(p, h), -3);
    }

    public int same(int p, int h, int q, int g) {
        if (held(p, h) == null || held(q, g) == null) {
            return -1;
        }
        return held(p, h) == held(q, g) ? 1 : 0;
    }

    public int flows(int q, int p) {
        if (part(q) == null || part(p) == null) {
            return -1;
        }
        return boot.config.leads(q, p) ? 1 : 0;
    }

    public int purge(int p) {
        if (part(p) == null) {
            return -1;
        }
        if (boot.inputs() > 500) {
            return -4;
        }
        return boot.purges(p) ? 1 : 0;
    }

    public int told(int what) {
        if (what < 0 || what > 8) {
            return -2;
        }
        boolean had = boot != null;
        int[] all = {isOn() ? 1 : 0, boots, had ? boot.ticks : 0, had ? boot.parts.length : 0,
            had ? boot.config.channels.size() : 0, writesBefore + (had ? boot.writes : 0), terms.outside.size(), row.size(), text.length()};
        return all[what];
    }
}
