import java.util.Random;
import java.util.function.IntSupplier;

/** All promises: long runs of chosen and made-up calls answer as the plain model does. */
public final class ModelTest {
    /** Texts that work together, so that runs go deep and far; each run mixes its own from them. */
    private static final String[] DEFINITIONS = {
        "Aa=:a.A+a1", "Aab=+ab", "Aab=:a:bn", "Aabc=.a.bc", "Aa=a", "Aabcd=:+ab*cd", "A=:1A", "Aa=?a+.A-a1.A-a10",
        "Ba=.Ba", "Bab=?zbn:.ahb..Batb", "Bab=..bab", "B=2", "Ba=+.Aa.Aa", "Bab=..Aab", "Bf=:f:.Ff.ff",
        "Ca=?<a21+.C-a1.C-a2", "Cab=?=a0n:hb..C-a1tb", "Cab=?bn:ha.Cta", "Ca=*aa", "C=.A1", "Ca=:.a1.a2",
        "Dab=?=a0hb..D-a1tb", "Da=:ha:hta.Dtta", "D=:hDD", "D=h:Dn", "Dab=?b..D.Ea-b1a", "Da=?a.D-a10",
        "Ea=a", "Ea=*a2", "Eabc=..abc", "E=:.AE.EA", "Eab=/ab", "Ea=.C.Ca", "Eab=?<ab:a..E+a1bn",
        "Fab=?zb0+hb..Fatb", "Fa=.a.Fa", "Fab=a", "Fabcd=.b+ac", "F=F", "Fab=:b..Fb+ab", "Fa=?za0+1.Fta",
    };
    private static final String[] ASKED = {
        "A", ".A1", "..A12", "...A123", "..B1.A2", "..BC.A1", "..BE.A3", ".C7", ".C9", ".C*34", "..C5.A2", "..C.A10",
        "..D3.A1", ".D.A1", "D", "..D9*55", "+0..D1*29", "E", ".E:1:2n", "..E37", "..E7-33", "..F0.A1", ".FE", ".F.E2",
        "..F11", "..B.E2..F11", "..F0..C6..F11", "..F0..E09", ":.C8.C8", ":.C9:.C9:.C9:.C9n", ":.A1.A2", "...BBBB",
        "..BBB", ".BB", ".EC", "..EA:1n", ".A.A.A.A.A3", ".E.A.E.A5", "h.A3", "ht.A3", "htt.A3", "z.A1", "?.A145",
    };
    private static final String SIGNS = "..+-*/%<=:::htz?..";
    private static final String LEAVES = "0123456789nnABCDEF";

    public static void main(String[] args) {
        for (int seed = 1; seed <= 1500; seed++) {
            run(new Random(seed), seed);
        }
        Driver.end();
    }

    private static void run(Random random, int seed) {
        NeedMachine machine = new NeedMachine();
        PlainModel model = new PlainModel();
        for (int i = 0; i < 60; i++) {
            step(random, machine, model, "run " + seed + " step " + i + ": ");
        }
    }

    private static void step(Random random, NeedMachine machine, PlainModel model, String where) {
        int choice = random.nextInt(20);
        if (choice < 5) {
            String text = random.nextInt(4) == 0 ? madeUpDefinition(random) : one(random, DEFINITIONS);
            type(machine, model, text, where);
            same(where + "define " + text, machine::define, model::define);
        } else if (choice < 10) {
            String text = random.nextInt(3) == 0 ? madeUp(random, "", 1 + random.nextInt(6)) : one(random, ASKED);
            type(machine, model, text, where);
            same(where + "ask " + text, machine::ask, model::ask);
        } else if (choice < 13) {
            same(where + "head", machine::head, model::head);
        } else if (choice < 17) {
            same(where + "tail", machine::tail, model::tail);
        } else if (choice < 18) {
            same(where + "number", machine::number, model::number);
        } else if (choice < 19) {
            int name = random.nextInt(14) - 1;
            same(where + "remove " + name, () -> removed(machine, name), () -> model.remove(name));
        } else {
            type(machine, model, String.valueOf((char) (30 + random.nextInt(100))), where);
        }
        for (int what = -1; what <= 8; what++) {
            Driver.same(where + "count " + what, machine.count(what), model.count(what));
        }
    }

    private static int removed(NeedMachine machine, int name) {
        machine.remove(name);
        return 0;
    }

    private static void type(NeedMachine machine, PlainModel model, String text, String where) {
        for (int i = 0; i < text.length(); i += 8) {
            long eight = Driver.pack(text.substring(i, Math.min(text.length(), i + 8)));
            same(where + "type " + text, () -> machine.type(eight), () -> model.type(eight));
        }
    }

    private static void same(String call, IntSupplier got, IntSupplier due) {
        Driver.same(call, Driver.outcome(got), Driver.outcome(due));
    }

    private static String one(Random random, String[] texts) {
        return texts[random.nextInt(texts.length)];
    }

    private static String madeUpDefinition(Random random) {
        String parameters = "abcdef".substring(0, random.nextInt(5));
        return "ABCDEF".charAt(random.nextInt(6)) + parameters + "=" + madeUp(random, parameters, 1 + random.nextInt(6));
    }

    private static String madeUp(Random random, String parameters, int depth) {
        if (depth == 1 || random.nextInt(6) == 0) {
            String leaves = LEAVES + parameters.repeat(9);
            return String.valueOf(leaves.charAt(random.nextInt(leaves.length())));
        }
        char sign = SIGNS.charAt(random.nextInt(SIGNS.length()));
        StringBuilder text = new StringBuilder().append(sign);
        for (int i = 0; i < PlainReader.partsOf(sign); i++) {
            text.append(madeUp(random, parameters, depth - 1));
        }
        return text.toString();
    }
}
