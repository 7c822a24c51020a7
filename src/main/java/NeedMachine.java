import java.util.ArrayList;
import java.util.NoSuchElementException;

/** Works out what is needed of an EXPRESSION and nothing else, each CLOSURE at most once. */
public final class NeedMachine {
    private static final int LONGEST_TEXT = 40;
    private static final int DEEPEST_EXPRESSION = 12;
    private static final int MOST_PARAMETERS = 4;
    private static final int ALL_NAMES = 6;
    private static final int DEEPEST_WORK = 60;
    private static final int MOST_CALLS = 400;

    // The kinds of a VALUE, numbered as ask and tail answer them.
    private static final int NUMBER = 0;
    private static final int NIL = 1;
    private static final int PAIR = 2;
    private static final int FUNCTION = 3;

    // The signs of the leaves; every other EXPRESSION's sign is its own character.
    private static final char DIGIT_SIGN = '0';
    private static final char PARAMETER_SIGN = 'a';
    private static final char NAME_SIGN = 'A';
    private static final char NIL_SIGN = 'n';

    private final Text text;
    private final Store store;
    private final Definition[] definitions;
    private Value result;
    private int calls;
    private int callsOfAll;
    private int forcedFirst;
    private int forcedLater;
    private int deepest;

    public NeedMachine() {
        text = new Text();
        store = new Store();
        definitions = new Definition[ALL_NAMES];
    }

    public int type(long eight) throws IllegalArgumentException, IllegalStateException {
        return text.add(eight);
    }

    public int define() throws IllegalArgumentException {
        Definition read = text.readDefinition();
        definitions[read.name] = read;
        return read.parameters;
    }

    public int ask() throws IllegalArgumentException, NoSuchElementException, ArithmeticException,
            IllegalStateException, UnsupportedOperationException {
        Expression asked = text.readAsked();
        // Nothing can reach the CLOSURES of the ASKING before this one once its RESULT is gone.
        result = null;
        store.takeAllBack();
        calls = 0;
        deepest = 0;
        result = work(asked, null, 1);
        return result.kind;
    }

    public int number() throws NoSuchElementException, UnsupportedOperationException {
        if (result == null) {
            throw new NoSuchElementException("there is no result");
        }
        return mustBeNumber(result);
    }

    public int head() throws NoSuchElementException, ArithmeticException, IllegalStateException,
            UnsupportedOperationException {
        Value pair = takeResultPair();
        int answer = mustBeNumber(force(pair.head, 0));
        result = pair;
        return answer;
    }

    public int tail() throws NoSuchElementException, ArithmeticException, IllegalStateException,
            UnsupportedOperationException {
        Value pair = takeResultPair();
        result = force(pair.tail, 0);
        return result.kind;
    }

    public void remove(int name) throws IllegalArgumentException, NoSuchElementException {
        if (name < 0 || name >= ALL_NAMES) {
            throw new IllegalArgumentException("no such name");
        }
        definitionOf(name);
        definitions[name] = null;
    }

    public int count(int what) {
        switch (what) {
            case 0:
                return text.badPlace;
            case 1:
                return text.length;
            case 2:
                return countDefinitions();
            case 3:
                return calls;
            case 4:
                return callsOfAll;
            case 5:
                return forcedFirst;
            case 6:
                return forcedLater;
            case 7:
                return deepest;
            default:
                return -1;
        }
    }

    private int countDefinitions() {
        int found = 0;
        for (Definition definition : definitions) {
            if (definition != null) {
                found++;
            }
        }
        return found;
    }

    /** Leaves no RESULT behind, so that there is none if what follows throws. */
    private Value takeResultPair() {
        Value taken = result;
        result = null;
        if (taken == null) {
            throw new NoSuchElementException("there is no result");
        }
        return mustBePair(taken);
    }

    private Value work(Expression expression, Arguments given, int depth) {
        if (depth > DEEPEST_WORK) {
            throw new IllegalStateException("working out stands too deep");
        }
        deepest = Math.max(deepest, depth);
        switch (expression.sign) {
            case DIGIT_SIGN:
                return store.makeNumber(expression.index);
            case NIL_SIGN:
                return store.nil;
            case PARAMETER_SIGN:
                return force(argumentAt(given, expression.index), depth);
            case NAME_SIGN:
                return workName(expression.index, depth);
            case ':':
                return store.makePair(closureOf(expression.first, given), closureOf(expression.second, given));
            case '.':
                return apply(expression, given, depth);
            case 'h':
                return force(mustBePair(work(expression.first, given, depth + 1)).head, depth);
            case 't':
                return force(mustBePair(work(expression.first, given, depth + 1)).tail, depth);
            case 'z':
                return store.makeNumber(isNil(work(expression.first, given, depth + 1)));
            case '?':
                return choose(expression, given, depth);
            default:
                return reckon(expression, given, depth);
        }
    }

    private Value workName(int name, int depth) {
        Definition definition = definitionOf(name);
        if (definition.parameters == 0) {
            return call(definition, null, depth);
        }
        return store.makeFunction(name, null);
    }

    private Value apply(Expression expression, Arguments given, int depth) {
        Value function = work(expression.first, given, depth + 1);
        if (function.kind != FUNCTION) {
            throw new UnsupportedOperationException("only a function can be applied");
        }
        Definition definition = definitionOf(function.number);
        Arguments all = store.makeArguments(function.arguments, closureOf(expression.second, given));
        if (all.size < definition.parameters) {
            return store.makeFunction(function.number, all);
        }
        return call(definition, all, depth);
    }

    private Value call(Definition definition, Arguments given, int depth) {
        if (calls >= MOST_CALLS) {
            throw new IllegalStateException("too many calls in one asking");
        }
        calls++;
        callsOfAll++;
        return work(definition.body, given, depth + 1);
    }

    private Value choose(Expression expression, Arguments given, int depth) {
        int condition = mustBeNumber(work(expression.first, given, depth + 1));
        return work(condition != 0 ? expression.second : expression.third, given, depth + 1);
    }

    private Value reckon(Expression expression, Arguments given, int depth) {
        int left = mustBeNumber(work(expression.first, given, depth + 1));
        int right = mustBeNumber(work(expression.second, given, depth + 1));
        return store.makeNumber(reckonNumbers(expression.sign, left, right));
    }

    private static int reckonNumbers(char sign, int left, int right) {
        switch (sign) {
            case '+':
                return left + right;
            case '-':
                return left - right;
            case '*':
                return left * right;
            case '/':
                return left / mustNotBeZero(right);
            case '%':
                return left % mustNotBeZero(right);
            case '<':
                return left < right ? 1 : 0;
            default:
                return left == right ? 1 : 0;
        }
    }

    /** Depth is that of the working out in which the CLOSURE is FORCED, 0 if there is none. */
    private Value force(Closure closure, int depth) {
        if (closure.begun) {
            forcedLater++;
            return mustBeWorkedOut(closure);
        }
        closure.begun = true;
        forcedFirst++;
        Value value = work(closure.expression, closure.given, depth + 1);
        closure.value = value;
        return value;
    }

    private Closure closureOf(Expression expression, Arguments given) {
        if (expression.sign == PARAMETER_SIGN) {
            return argumentAt(given, expression.index);
        }
        return store.makeClosure(expression, given);
    }

    private Definition definitionOf(int name) {
        Definition definition = definitions[name];
        if (definition == null) {
            throw new NoSuchElementException("the name has no definition");
        }
        return definition;
    }

    /** A CALL is given no fewer ARGUMENTS than the PARAMETERS of what it works out: one is always found. */
    private static Closure argumentAt(Arguments given, int index) {
        for (Arguments some = given; some != null; some = some.before) {
            if (some.size == index + 1) {
                return some.last;
            }
        }
        throw new IllegalStateException("the parameter has no argument");
    }

    private static Value mustBeWorkedOut(Closure closure) {
        if (closure.value == null) {
            throw new IllegalStateException("the closure needs itself");
        }
        return closure.value;
    }

    private static int mustBeNumber(Value value) {
        if (value.kind != NUMBER) {
            throw new UnsupportedOperationException("only a number will do");
        }
        return value.number;
    }

    private static Value mustBePair(Value value) {
        if (value.kind == NIL) {
            throw new NoSuchElementException("nil has no parts");
        }
        if (value.kind != PAIR) {
            throw new UnsupportedOperationException("only a pair will do");
        }
        return value;
    }

    private static int isNil(Value value) {
        if (value.kind != NIL && value.kind != PAIR) {
            throw new UnsupportedOperationException("only nil or a pair will do");
        }
        return value.kind == NIL ? 1 : 0;
    }

    private static int mustNotBeZero(int divisor) {
        if (divisor == 0) {
            throw new ArithmeticException("divided by zero");
        }
        return divisor;
    }

    /** Index: a digit's number, a PARAMETER's place among its DEFINITION's, or a NAME's number. */
    private static final class Expression {
        final char sign;
        final int index;
        final Expression first;
        final Expression second;
        final Expression third;

        Expression(char sign, int index, Expression first, Expression second, Expression third) {
            this.sign = sign;
            this.index = index;
            this.first = first;
            this.second = second;
            this.third = third;
        }
    }

    private static final class Definition {
        final int name;
        final int parameters;
        final Expression body;

        Definition(int name, int parameters, Expression body) {
            this.name = name;
            this.parameters = parameters;
            this.body = body;
        }
    }

    /** Number is the NUMBER or the FUNCTION's NAME; arguments is null for a FUNCTION without any. */
    private static final class Value {
        int kind;
        int number;
        Closure head;
        Closure tail;
        Arguments arguments;
    }

    private static final class Closure {
        Expression expression;
        Arguments given;
        boolean begun;
        Value value;
    }

    /** ARGUMENTS as a chain from the last to the first, so that FUNCTIONS share those they have in common. */
    private static final class Arguments {
        Arguments before;
        Closure last;
        int size;
    }

    /**
     * Makes what an ASKING needs and takes it all back for the next one: one ASKING may need thousands
     * of things, and what all calls together make has to stay small.
     */
    private static final class Store {
        final Value nil;
        private final ArrayList<Value> values;
        private final ArrayList<Closure> closures;
        private final ArrayList<Arguments> chains;
        private int valuesUsed;
        private int closuresUsed;
        private int chainsUsed;

        Store() {
            nil = new Value();
            nil.kind = NIL;
            values = new ArrayList<>();
            closures = new ArrayList<>();
            chains = new ArrayList<>();
        }

        void takeAllBack() {
            valuesUsed = 0;
            closuresUsed = 0;
            chainsUsed = 0;
        }

        Value makeNumber(int number) {
            Value made = nextValue(NUMBER);
            made.number = number;
            return made;
        }

        Value makePair(Closure head, Closure tail) {
            Value made = nextValue(PAIR);
            made.head = head;
            made.tail = tail;
            return made;
        }

        Value makeFunction(int name, Arguments arguments) {
            Value made = nextValue(FUNCTION);
            made.number = name;
            made.arguments = arguments;
            return made;
        }

        Closure makeClosure(Expression expression, Arguments given) {
            if (closuresUsed >= closures.size()) {
                closures.add(new Closure());
            }
            Closure made = closures.get(closuresUsed);
            closuresUsed++;
            made.expression = expression;
            made.given = given;
            made.begun = false;
            made.value = null;
            return made;
        }

        Arguments makeArguments(Arguments before, Closure last) {
            if (chainsUsed >= chains.size()) {
                chains.add(new Arguments());
            }
            Arguments made = chains.get(chainsUsed);
            chainsUsed++;
            made.before = before;
            made.last = last;
            made.size = before == null ? 1 : before.size + 1;
            return made;
        }

        private Value nextValue(int kind) {
            if (valuesUsed >= values.size()) {
                values.add(new Value());
            }
            Value next = values.get(valuesUsed);
            valuesUsed++;
            next.kind = kind;
            return next;
        }
    }

    /** The text that is typed, and the reading of it. */
    private static final class Text {
        int length;
        int badPlace;
        private final char[] characters;
        private final char[] parameters;
        private int parametersRead;
        private int end;
        private int place;
        // How many EXPRESSIONS must still be read, the one at the place among them.
        private int owed;

        Text() {
            badPlace = -1;
            characters = new char[LONGEST_TEXT];
            parameters = new char[MOST_PARAMETERS];
        }

        int add(long eight) {
            int added = 0;
            for (int shift = 56; shift >= 0; shift -= 8) {
                int character = byteAt(eight, shift);
                if (character != 0 && (character < 33 || character > 126)) {
                    throw new IllegalArgumentException("not a character of a text");
                }
                added += character != 0 ? 1 : 0;
            }
            if (length + added > LONGEST_TEXT) {
                throw new IllegalStateException("the text would be too long");
            }
            for (int shift = 56; shift >= 0; shift -= 8) {
                int character = byteAt(eight, shift);
                if (character != 0) {
                    characters[length] = (char) character;
                    length++;
                }
            }
            return length;
        }

        private static int byteAt(long eight, int shift) {
            return (int) (eight >>> shift) & 255;
        }

        Definition readDefinition() {
            beginReading();
            refuseUnless(place < end && isName(characters[place]));
            int name = characters[place] - 'A';
            place++;
            readParameters();
            refuseUnless(place < end && characters[place] == '=');
            place++;
            return new Definition(name, parametersRead, readToTheEnd());
        }

        Expression readAsked() {
            beginReading();
            return readToTheEnd();
        }

        private void beginReading() {
            end = length;
            length = 0;
            place = 0;
            parametersRead = 0;
        }

        private void readParameters() {
            while (parametersRead < MOST_PARAMETERS && place < end && isNewParameter(characters[place])) {
                parameters[parametersRead] = characters[place];
                parametersRead++;
                place++;
            }
        }

        private Expression readToTheEnd() {
            owed = 1;
            Expression read = readExpression(1);
            refuseUnless(place == end);
            return read;
        }

        private Expression readExpression(int depth) {
            refuseUnless(place < end && canStand(characters[place], depth));
            char character = characters[place];
            int parts = partsOf(character);
            place++;
            owed += parts - 1;
            if (parts == 0) {
                return readLeaf(character);
            }
            Expression first = readExpression(depth + 1);
            Expression second = parts > 1 ? readExpression(depth + 1) : null;
            Expression third = parts > 2 ? readExpression(depth + 1) : null;
            return new Expression(character, 0, first, second, third);
        }

        private Expression readLeaf(char character) {
            if (isDigit(character)) {
                return new Expression(DIGIT_SIGN, character - '0', null, null, null);
            }
            if (isName(character)) {
                return new Expression(NAME_SIGN, character - 'A', null, null, null);
            }
            int parameter = parameterIndex(character);
            if (parameter >= 0) {
                return new Expression(PARAMETER_SIGN, parameter, null, null, null);
            }
            return new Expression(NIL_SIGN, 0, null, null, null);
        }

        /**
         * Whether a right text could go on with this character: its parts must not stand too deep, and
         * the shortest text that still gives every EXPRESSION that is owed must not be too long.
         */
        private boolean canStand(char character, int depth) {
            int parts = partsOf(character);
            if (parts == 0) {
                return isLeaf(character);
            }
            return depth < DEEPEST_EXPRESSION && place + owed + parts <= LONGEST_TEXT;
        }

        private boolean isLeaf(char character) {
            return isDigit(character) || isName(character) || character == NIL_SIGN
                    || parameterIndex(character) >= 0;
        }

        private boolean isNewParameter(char character) {
            return character >= 'a' && character <= 'f' && parameterIndex(character) < 0;
        }

        private int parameterIndex(char character) {
            for (int i = 0; i < parametersRead; i++) {
                if (parameters[i] == character) {
                    return i;
                }
            }
            return -1;
        }

        private static boolean isDigit(char character) {
            return character >= '0' && character <= '9';
        }

        private static boolean isName(char character) {
            return character >= 'A' && character < 'A' + ALL_NAMES;
        }

        private static int partsOf(char character) {
            switch (character) {
                case 'h':
                case 't':
                case 'z':
                    return 1;
                case '.':
                case ':':
                case '+':
                case '-':
                case '*':
                case '/':
                case '%':
                case '<':
                case '=':
                    return 2;
                case '?':
                    return 3;
                default:
                    return 0;
            }
        }

        private void refuseUnless(boolean right) {
            if (!right) {
                badPlace = place;
                throw new IllegalArgumentException("the text cannot be read");
            }
        }
    }
}
