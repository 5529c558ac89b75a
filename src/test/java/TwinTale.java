import java.util.List;

/** A TALE by Java's own inheritance: each KIND says just what the document says of it. */
class TwinTale {
    static final int HELD = 9999;

    final int number;
    final int kind;
    final int m;
    int marks;
    int yards;
    int at;
    int costs;
    List<Integer> trace;

    TwinTale(int number, int kind, int m) {
        this.number = number;
        this.kind = kind;
        this.m = m;
    }

    static TwinTale of(int number, int km) {
        int m = km % 10;
        switch (km / 10) {
            case 1: return new Limping(number, 1, m);
            case 2: return new Foreign(number, 2, m);
            case 3: return new Small(number, 3, m);
            case 4: return new Gospel(number, 4, m);
            case 5: return new Elephant(number, 5, m);
            case 6: return new Wife(number, 6, m);
            default: return new TwinTale(number, 0, m);
        }
    }

    /** The same TALE as one of another KIND. */
    TwinTale as(int km) {
        TwinTale other = of(number, km);
        other.marks = marks;
        other.yards = yards;
        other.at = at;
        other.costs = costs;
        return other;
    }

    boolean is(int wanted) {
        switch (wanted) {
            case 0: return true;
            case 1: return this instanceof Limping;
            case 2: return this instanceof Foreign;
            case 3: return this instanceof Small;
            case 4: return this instanceof Gospel;
            case 5: return this instanceof Elephant;
            default: return this instanceof Wife;
        }
    }

    int wayOf(int y) {
        return y;
    }

    /** All bits; who asks keeps the lowest eight. */
    int marksOf(int text, int b, int y) {
        return text;
    }

    int walks(int x) {
        trace.add(10);
        return x + number;
    }

    int grows(int x) {
        trace.add(11);
        return walks(x) * 2;
    }

    int limps(int x) {
        trace.add(12);
        return x - m;
    }

    int tells(int x) {
        trace.add(13);
        return grows(x) ^ limps(x);
    }

    static class Limping extends TwinTale {
        Limping(int number, int kind, int m) {
            super(number, kind, m);
        }

        @Override
        int wayOf(int y) {
            return Math.max(y / 2, 1);
        }

        @Override
        int marksOf(int text, int b, int y) {
            return text | 1;
        }

        @Override
        int walks(int x) {
            trace.add(20);
            return super.walks(x) * 3;
        }
    }

    static class Foreign extends TwinTale {
        Foreign(int number, int kind, int m) {
            super(number, kind, m);
        }

        @Override
        int wayOf(int y) {
            return 3 * y;
        }

        @Override
        int marksOf(int text, int b, int y) {
            int bit = 1;
            for (int i = 0; i < y % 8; i++) {
                bit *= 2;
            }
            return (text & bit) == 0 ? text + bit : text - bit;
        }

        @Override
        int grows(int x) {
            trace.add(30);
            return super.grows(x) - limps(1);
        }
    }

    static class Small extends TwinTale {
        Small(int number, int kind, int m) {
            super(number, kind, m);
        }

        @Override
        int marksOf(int text, int b, int y) {
            return b;
        }

        @Override
        int limps(int x) {
            trace.add(40);
            return -super.limps(x);
        }
    }

    static final class Gospel extends Limping {
        Gospel(int number, int kind, int m) {
            super(number, kind, m);
        }

        @Override
        int wayOf(int y) {
            return 2 * super.wayOf(y);
        }

        @Override
        int marksOf(int text, int b, int y) {
            return super.marksOf(text, b, y) | 128;
        }

        @Override
        int tells(int x) {
            trace.add(50);
            return super.tells(x) - walks(2);
        }
    }

    static final class Elephant extends Foreign {
        Elephant(int number, int kind, int m) {
            super(number, kind, m);
        }

        @Override
        int wayOf(int y) {
            return super.wayOf(y) + m;
        }

        @Override
        int marksOf(int text, int b, int y) {
            return super.marksOf(text, b, y) ^ 255;
        }

        @Override
        int grows(int x) {
            trace.add(60);
            return super.grows(x + 1);
        }
    }

    static final class Wife extends Small {
        Wife(int number, int kind, int m) {
            super(number, kind, m);
        }

        @Override
        int wayOf(int y) {
            return Math.max(super.wayOf(y) - m, 0);
        }

        @Override
        int marksOf(int text, int b, int y) {
            return super.marksOf(text, b, y) & ~1;
        }

        @Override
        int limps(int x) {
            trace.add(70);
            return super.limps(x) ^ number;
        }

        @Override
        int tells(int x) {
            trace.add(71);
            return grows(x) - super.tells(x);
        }
    }
}
