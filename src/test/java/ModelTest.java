import java.util.Random;
import java.util.function.IntSupplier;

/** All promises: runs of 512 chosen and made-up calls answer as the plain model does. */
public final class ModelTest {
    /** Texts that work together, so that runs go deep and far; each run mixes its own from them. */
    private static final String[] DEFINITIONS = {
        "Aa=:a.A+a1", "Aab=+ab", "Aab=:a:bn", "Aabc=.a.bc", "Aa=a", "Aabcd=:+ab*cd", "A=:1A", "Aa=?a+.A-a1.A-a10",
        "Ba=.Ba", "Bab=?zbn:.ahb..Batb", "Bab=..bab", "B=2", "Ba=+.Aa.Aa", "Bab=..Aab", "Bf=:f:.Ff.ff",
        "Ca=?<a21+.C-a1.C-a2", "Cab=?=a0n:hb..C-a1tb", "Cab=?bn:ha.Cta", "Ca=*aa", "C=.A1", "Ca=:.a1.a2",
        "Dab=?=a0hb..D-a1tb", "Da=:ha:hta.Dtta", "D=:hDD", "D=h:Dn", "Dab=?b..D.Ea-b1a", "Da=?a.D-a10",
        "Ea=a", "Ea=*a2", "Eabc=..abc", "E=:.AE.EA", "Eab=/ab", "Ea=.C.Ca", "Eab=?<ab:a..E+a1bn",
        "Fab=?zb0+hb..Fatb", "Fa=.a.Fa", "Fab=a", "Fabcd=.b+ac", "F=F", "Fab=:b..Fb+ab", "Fa=?za0+1.Fta",
    };
    private static final String[] ASKED = {
        "A", ".A1", "..A12", "...A123", "..B1.A2", "..BC.A1", "..BE.A3", ".C7", ".C9", ".C*34", "..C5.A2", "..C.A10",
        "..D3.A1", ".D.A1", "D", "..D9*55", "+0..D1*29", "E", ".E:1:2n", "..E37", "..E7-33", "..F0.A1", ".FE", ".F.E2",
        "..F11", "..B.E2..F11", "..F0..C6..F11", "..F0..E09", ":.C8.C8", ":.C9:.C9:.C9:.C9n", ":.A1.A2", "...BBBB",
        "..BBB", ".BB", ".EC", "..EA:1n", ".A.A.A.A.A3", ".E.A.E.A5", "h.A3", "ht.A3", "htt.A3", "z.A1", "?.A145",
    };
    private static final String SIGNS = "..+-*/%<=:::htz?..";
    private static final String LEAVES = "0123456789nnABCDEF";

    private static final int CALLS = 512;

    private final Random random;
    private final NeedMachine machine = new NeedMachine();
    private final PlainModel model = new PlainModel();
    private final String run;
    private int calls;

    private ModelTest(int seed) {
        random = new Random(seed);
        run = "run " + seed + " call ";
    }

    public static void main(String[] args) {
        for (int seed = 1; seed <= 1500; seed++) {
            new ModelTest(seed).makeAllCalls();
        }
        Driver.end();
    }

    /** As many as an object is used for, the last of them telling all that count tells. */
    private void makeAllCalls() {
        while (calls < CALLS - 24) {
            makeSomeCalls();
            for (int i = 0; i < 4; i++) {
                count(random.nextInt(10) - 1);
            }
        }
        for (int what = 0; calls < CALLS; what++) {
            count(what % 10 - 1);
        }
    }

    private void makeSomeCalls() {
        int choice = random.nextInt(20);
        if (choice < 5) {
            type(random.nextInt(4) == 0 ? madeUpDefinition() : one(DEFINITIONS));
            same("define", machine::define, model::define);
        } else if (choice < 10) {
            type(random.nextInt(3) == 0 ? madeUp("", 1 + random.nextInt(6)) : one(ASKED));
            same("ask", machine::ask, model::ask);
        } else if (choice < 13) {
            same("head", machine::head, model::head);
        } else if (choice < 17) {
            same("tail", machine::tail, model::tail);
        } else if (choice < 18) {
            same("number", machine::number, model::number);
        } else if (choice < 19) {
            int name = random.nextInt(14) - 1;
            same("remove " + name, () -> removed(name), () -> model.remove(name));
        } else {
            type(String.valueOf((char) (30 + random.nextInt(100))));
        }
    }

    private int removed(int name) {
        machine.remove(name);
        return 0;
    }

    private void count(int what) {
        same("count " + what, () -> machine.count(what), () -> model.count(what));
    }

    /** Texts that can be refused for their length are cut off, so that the calls that they take are few. */
    private void type(String text) {
        for (int i = 0; i < Math.min(text.length(), 48); i += 8) {
            long eight = Driver.pack(text.substring(i, Math.min(text.length(), i + 8)));
            same("type " + text, () -> machine.type(eight), () -> model.type(eight));
        }
    }

    private void same(String call, IntSupplier got, IntSupplier due) {
        calls++;
        Driver.same(run + calls + ": " + call, Driver.outcome(got), Driver.outcome(due));
    }

    private String one(String[] texts) {
        return texts[random.nextInt(texts.length)];
    }

    private String madeUpDefinition() {
        String parameters = "abcdef".substring(0, random.nextInt(5));
        return "ABCDEF".charAt(random.nextInt(6)) + parameters + "=" + madeUp(parameters, 1 + random.nextInt(6));
    }

    private String madeUp(String parameters, int depth) {
        if (depth == 1 || random.nextInt(6) == 0) {
            String leaves = LEAVES + parameters.repeat(9);
            return String.valueOf(leaves.charAt(random.nextInt(leaves.length())));
        }
        char sign = SIGNS.charAt(random.nextInt(SIGNS.length()));
        StringBuilder text = new StringBuilder().append(sign);
        for (int i = 0; i < PlainReader.partsOf(sign); i++) {
            text.append(madeUp(parameters, depth - 1));
        }
        return text.toString();
    }
}
