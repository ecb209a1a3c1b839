import java.math.BigInteger;
import java.util.ArrayList;
import java.util.HashSet;
import java.util.List;
import java.util.Set;
import java.util.function.Consumer;

/**
 * A plain interpreter of the document's scripts, to compare ScriptBench with. It is written another
 * way on purpose: a tree, scopes by name, and what is to be done next handed on as a function.
 */
final class Reference {
    /** How the working out of an expression ended goes to one of these. */
    private interface Then {
        void ended(How how, Object value);
    }

    private enum How { VALUE, THROW, BREAK, NEXT, RETURN, CLOSING }

    private static final class BadShape extends RuntimeException {
        private static final long serialVersionUID = 1L;
    }

    private static final class Node {
        int place;
        int kind;
        int operand;
        final List<Node> parts = new ArrayList<>();
        // Of an FN alone.
        boolean yields;
        final Set<Node> outside = new HashSet<>();
    }

    private static final class Scope {
        final int name;
        final Scope outer;
        Object value;

        Scope(int name, Object value, Scope outer) {
            this.name = name;
            this.value = value;
            this.outer = outer;
        }

        Scope find(int wanted) {
            return name == wanted ? this : outer.find(wanted);
        }
    }

    private static final class Function {
        Node fn;
        Scope scope;
    }

    private static final class Generator {
        int number;
        int state;
        int place;
        boolean closing;
        Node body;
        Scope scope;
        Then afterYield;
        Then resumer;
    }

    private final int[] kinds;
    private final int[] operands;
    private Node script;
    private int at;

    int compiled;
    int place = -1;
    final int[] infos = {0, 0, 0, 0};

    private Runnable pending;
    private int active;
    private final List<Generator> generators = new ArrayList<>();
    final List<Object> notes = new ArrayList<>();
    int outcome;
    int steps;
    Object value;

    Reference(int[] kinds, int[] operands) {
        this.kinds = kinds;
        this.operands = operands;
        compile();
    }

    // ---- compile ----

    private void compile() {
        try {
            script = parse();
            if (at < kinds.length) {
                refuse(1, at);
                return;
            }
        } catch (BadShape e) {
            refuse(1, kinds.length);
            return;
        }
        List<Node> fns = new ArrayList<>();
        Set<Node> captured = new HashSet<>();
        look(script, new ArrayList<>(), null, false, fns, captured);
        if (compiled != 0) {
            return;
        }
        infos[0] = fns.size();
        for (Node fn : fns) {
            infos[1] += fn.yields ? 1 : 0;
            infos[3] = Math.max(infos[3], fn.outside.size());
        }
        infos[2] = captured.size();
    }

    /** Keeps the first place of the least answer, whatever the order in which they are found. */
    private void refuse(int how, int where) {
        if (compiled == 0 || how < compiled || (how == compiled && where < place)) {
            compiled = how;
            place = where;
        }
    }

    private Node parse() {
        if (at >= kinds.length) {
            throw new BadShape();
        }
        Node node = new Node();
        node.place = at;
        node.kind = kinds[at];
        node.operand = operands[at];
        at++;
        String shapes = "000121222222232200112212111";
        for (int n = shapes.charAt(node.kind) - '0'; n > 0; n--) {
            node.parts.add(parse());
        }
        return node;
    }

    /** around: the binders in whose F or body the node stands, and each FN's own place among them. */
    private void look(Node node, List<Node> around, Node ownFn, boolean inLoop, List<Node> fns, Set<Node> captured) {
        switch (node.kind) {
            case 2:
            case 3:
                lookForBinder(node, around, captured);
                break;
            case 16:
            case 17:
                if (!inLoop) {
                    refuse(3, node.place);
                }
                break;
            case 22:
                if (ownFn == null) {
                    refuse(3, node.place);
                } else {
                    ownFn.yields = true;
                }
                break;
            default:
                break;
        }
        if (node.kind == 5) {
            fns.add(node);
        }
        for (int n = 0; n < node.parts.size(); n++) {
            boolean binds = node.kind == 5 || ((node.kind == 4 || node.kind == 20) && n == 1);
            if (binds) {
                around.add(node);
            }
            boolean loops = node.kind == 5 ? false : node.kind == 14 && n == 1 ? true : inLoop;
            look(node.parts.get(n), around, node.kind == 5 ? node : ownFn, loops, fns, captured);
            if (binds) {
                around.remove(around.size() - 1);
            }
        }
    }

    private void lookForBinder(Node node, List<Node> around, Set<Node> captured) {
        List<Node> passed = new ArrayList<>();
        for (int n = around.size() - 1; n >= 0; n--) {
            Node binder = around.get(n);
            if (binder.operand == node.operand) {
                for (Node fn : passed) {
                    fn.outside.add(binder);
                    captured.add(binder);
                }
                return;
            }
            if (binder.kind == 5) {
                passed.add(binder);
            }
        }
        refuse(2, node.place);
    }

    // ---- run ----

    void run(int most) {
        steps = 0;
        generators.clear();
        notes.clear();
        active = 1;
        outcome = 2;
        value = null;
        work(script, null, null, (how, result) -> {
            outcome = how == How.THROW ? 1 : 0;
            value = result;
        });
        while (pending != null && steps < most) {
            Runnable now = pending;
            pending = null;
            steps++;
            now.run();
        }
        pending = null;
    }

    /** Works the first n parts out and hands their values on if all ended with values. */
    private void parts(Node node, int n, Scope scope, Generator self, Then then, Consumer<Object[]> all) {
        nextPart(node, new Object[n], 0, scope, self, then, all);
    }

    private void nextPart(Node node, Object[] values, int n, Scope scope, Generator self, Then then,
            Consumer<Object[]> all) {
        if (n == values.length) {
            all.accept(values);
            return;
        }
        work(node.parts.get(n), scope, self, (how, result) -> {
            if (how != How.VALUE) {
                then.ended(how, result);
            } else {
                values[n] = result;
                nextPart(node, values, n + 1, scope, self, then, all);
            }
        });
    }

    /** Every call of this is the last thing its caller does, so run() can take it up from there. */
    private void work(Node node, Scope scope, Generator self, Then then) {
        pending = () -> begin(node, scope, self, then);
    }

    /** self: the generator whose body this is, or null. */
    private void begin(Node node, Scope scope, Generator self, Then then) {
        Node second = node.parts.size() > 1 ? node.parts.get(1) : null;
        switch (node.kind) {
            case 0 -> then.ended(How.VALUE, node.operand);
            case 1 -> then.ended(How.VALUE, null);
            case 2 -> then.ended(How.VALUE, scope.find(node.operand).value);
            case 3 -> parts(node, 1, scope, self, then, v -> {
                scope.find(node.operand).value = v[0];
                then.ended(How.VALUE, v[0]);
            });
            case 4 -> parts(node, 1, scope, self, then,
                v -> work(second, new Scope(node.operand, v[0], scope), self, then));
            case 5 -> {
                Function function = new Function();
                function.fn = node;
                function.scope = scope;
                then.ended(How.VALUE, function);
            }
            case 6 -> parts(node, 2, scope, self, then, v -> call(v[0], v[1], then));
            case 7, 8, 9, 10, 11 -> parts(node, 2, scope, self, then, v -> calculate(node.kind, v[0], v[1], then));
            case 12 -> parts(node, 2, scope, self, then, v -> then.ended(How.VALUE, same(v[0], v[1]) ? 1 : 0));
            case 13 -> parts(node, 1, scope, self, then, v -> work(node.parts.get(truth(v[0]) ? 1 : 2), scope, self, then));
            case 14 -> loop(node, scope, self, then);
            case 15 -> parts(node, 1, scope, self, then, v -> work(second, scope, self, then));
            case 16 -> then.ended(How.BREAK, null);
            case 17 -> then.ended(How.NEXT, null);
            case 18 -> parts(node, 1, scope, self, then, v -> then.ended(How.RETURN, v[0]));
            case 19 -> parts(node, 1, scope, self, then, v -> then.ended(How.THROW, v[0]));
            case 20 -> work(node.parts.get(0), scope, self, (how, result) -> {
                if (how == How.THROW) {
                    work(second, new Scope(node.operand, result, scope), self, then);
                } else {
                    then.ended(how, result);
                }
            });
            case 21 -> work(node.parts.get(0), scope, self, (how, result) -> work(second, scope, self, (how2, result2) -> {
                if (how2 == How.VALUE) {
                    then.ended(how, result);
                } else {
                    then.ended(how2, result2);
                }
            }));
            case 22 -> parts(node, 1, scope, self, then, v -> waitAt(node, self, v[0], then));
            case 23 -> parts(node, 2, scope, self, then, v -> resume(v[0], v[1], then));
            case 24 -> parts(node, 1, scope, self, then, v -> {
                if (v[0] instanceof Generator g) {
                    then.ended(How.VALUE, g.state == 3 ? 1 : 0);
                } else {
                    then.ended(How.THROW, -3);
                }
            });
            case 25 -> parts(node, 1, scope, self, then, v -> close(v[0], then));
            default -> parts(node, 1, scope, self, then, v -> {
                notes.add(v[0]);
                boolean below = v[0] instanceof Integer i && i < 0;
                then.ended(below ? How.THROW : How.VALUE, v[0]);
            });
        }
    }

    private void loop(Node node, Scope scope, Generator self, Then then) {
        parts(node, 1, scope, self, then, v -> {
            if (!truth(v[0])) {
                then.ended(How.VALUE, null);
                return;
            }
            work(node.parts.get(1), scope, self, (how, result) -> {
                switch (how) {
                    case VALUE, NEXT -> loop(node, scope, self, then);
                    case BREAK -> then.ended(How.VALUE, null);
                    default -> then.ended(how, result);
                }
            });
        });
    }

    private static boolean truth(Object v) {
        return v != null && !(v instanceof Integer i && i == 0) && !(v instanceof Long l && l == 0);
    }

    private static boolean same(Object a, Object b) {
        if (a instanceof Number x && b instanceof Number y) {
            return x.longValue() == y.longValue();
        }
        return a == b;
    }

    private static void calculate(int kind, Object a, Object b, Then then) {
        if (!(a instanceof Number) || !(b instanceof Number)) {
            then.ended(How.THROW, -3);
            return;
        }
        BigInteger x = BigInteger.valueOf(((Number) a).longValue());
        BigInteger y = BigInteger.valueOf(((Number) b).longValue());
        if (kind == 10 && y.signum() == 0) {
            then.ended(How.THROW, -1);
            return;
        }
        BigInteger result = switch (kind) {
            case 7 -> x.add(y);
            case 8 -> x.subtract(y);
            case 9 -> x.multiply(y);
            case 10 -> x.divide(y);
            default -> x.compareTo(y) < 0 ? BigInteger.ONE : BigInteger.ZERO;
        };
        boolean ints = kind == 11 || (a instanceof Integer && b instanceof Integer);
        if (ints && result.bitLength() < 32) {
            then.ended(How.VALUE, result.intValue());
        } else if (result.bitLength() < 64) {
            then.ended(How.VALUE, result.longValue());
        } else {
            then.ended(How.THROW, -2);
        }
    }

    private void call(Object f, Object argument, Then then) {
        if (!(f instanceof Function function)) {
            then.ended(How.THROW, -3);
            return;
        }
        Scope scope = new Scope(function.fn.operand, argument, function.scope);
        Node body = function.fn.parts.get(0);
        if (function.fn.yields) {
            if (generators.size() == 8) {
                then.ended(How.THROW, -6);
                return;
            }
            Generator g = new Generator();
            g.number = generators.size();
            g.body = body;
            g.scope = scope;
            generators.add(g);
            then.ended(How.VALUE, g);
        } else if (active == 8) {
            then.ended(How.THROW, -5);
        } else {
            active++;
            work(body, scope, null, (how, result) -> {
                active--;
                then.ended(how == How.RETURN ? How.VALUE : how, result);
            });
        }
    }

    private void resume(Object v, Object sent, Then then) {
        if (!(v instanceof Generator g)) {
            then.ended(How.THROW, -3);
        } else if (g.state == 2) {
            then.ended(How.THROW, -4);
        } else if (g.state == 3) {
            then.ended(How.VALUE, null);
        } else if (active == 8) {
            then.ended(How.THROW, -5);
        } else {
            boolean begins = g.state == 0;
            active++;
            g.state = 2;
            g.resumer = then;
            if (begins) {
                work(g.body, g.scope, g, (how, result) -> {
                    active--;
                    g.state = 3;
                    if (how == How.THROW) {
                        g.resumer.ended(how, result);
                    } else {
                        g.resumer.ended(How.VALUE, g.closing ? null : result);
                    }
                });
            } else {
                g.afterYield.ended(How.VALUE, sent);
            }
        }
    }

    private void waitAt(Node node, Generator self, Object v, Then then) {
        if (self.closing) {
            then.ended(How.THROW, -4);
            return;
        }
        active--;
        self.state = 1;
        self.place = node.place;
        self.afterYield = then;
        self.resumer.ended(How.VALUE, v);
    }

    private void close(Object v, Then then) {
        if (!(v instanceof Generator g)) {
            then.ended(How.THROW, -3);
        } else if (g.state == 0 || g.state == 3) {
            g.state = 3;
            then.ended(How.VALUE, null);
        } else if (g.state == 2) {
            then.ended(How.THROW, -4);
        } else if (active == 8) {
            then.ended(How.THROW, -5);
        } else {
            active++;
            g.state = 2;
            g.closing = true;
            g.resumer = then;
            g.afterYield.ended(How.CLOSING, null);
        }
    }

    // ---- answers ----

    static int sortOf(Object v) {
        return v == null ? 0 : v instanceof Integer ? 1 : v instanceof Long ? 2 : v instanceof Function ? 3 : 4;
    }

    static long numberOf(Object v) {
        if (v instanceof Function f) {
            return f.fn.place;
        }
        if (v instanceof Generator g) {
            return g.number;
        }
        return v == null ? 0 : ((Number) v).longValue();
    }

    int generator(int g) {
        return g < generators.size() ? generators.get(g).state : -1;
    }

    int waits(int g) {
        return generator(g) == 1 ? generators.get(g).place : -1;
    }
}
