/** Promises 27 to 29: z, VOICES and THE TRACE. */
final class VoicesTest {
    /** The same VOICES by Java's own classes. */
    private static class Plain {
        static int[] trace = new int[100];
        static int length;
        int m;
        int n;

        static void began(int body) {
            trace[length++] = body;
        }

        int walks(int x) {
            began(10);
            return x + n;
        }

        int grows(int x) {
            began(11);
            return walks(x) * 2;
        }

        int limps(int x) {
            began(12);
            return x - m;
        }

        int tells(int x) {
            began(13);
            return grows(x) ^ limps(x);
        }
    }

    private static class Limping extends Plain {
        @Override
        int walks(int x) {
            began(20);
            return super.walks(x) * 3;
        }
    }

    private static class Foreign extends Plain {
        @Override
        int grows(int x) {
            began(30);
            return super.grows(x) - limps(1);
        }
    }

    private static class Small extends Plain {
        @Override
        int limps(int x) {
            began(40);
            return -super.limps(x);
        }
    }

    private static class Gospel extends Limping {
        @Override
        int tells(int x) {
            began(50);
            return super.tells(x) - walks(2);
        }
    }

    private static class Elephant extends Foreign {
        @Override
        int grows(int x) {
            began(60);
            return super.grows(x + 1);
        }
    }

    private static class Wife extends Small {
        @Override
        int limps(int x) {
            began(70);
            return super.limps(x) ^ n;
        }

        @Override
        int tells(int x) {
            began(71);
            return grows(x) - super.tells(x);
        }
    }

    public static void main(String[] args) {
        seed();
        voice();
        trace();
        Due.end();
    }

    private static Plain plain(int kind) {
        switch (kind) {
            case 1: return new Limping();
            case 2: return new Foreign();
            case 3: return new Small();
            case 4: return new Gospel();
            case 5: return new Elephant();
            case 6: return new Wife();
            default: return new Plain();
        }
    }

    private static int told(Plain p, int act, int x) {
        Plain.length = 0;
        return act == 0 ? p.walks(x) : act == 1 ? p.grows(x) : act == 2 ? p.limps(x) : p.tells(x);
    }

    private static void seed() {
        BelievedByYard x = new BelievedByYard();
        Due.is("seed(-7)", x.seed(-7), 1);
        Due.is("count(9)", x.count(9), -7);
        Due.is("seed(MIN_VALUE)", x.seed(Integer.MIN_VALUE), -7);
        Due.is("seed(BEYOND)", x.seed(Due.BEYOND), Integer.MIN_VALUE);
        Due.is("seed(0)", x.seed(0), Due.BEYOND);
        Due.is("told(1): no ERROR by its value", x.told(1), 0);
        x.loose(1);
        Due.is("count(9) behind two draws", x.count(9), 12345 * 1103515245 + 12345);
    }

    private static void voice() {
        int[] numbers = {0, 1, 2, 5, -1, -100, 1000000000, Integer.MAX_VALUE, Integer.MIN_VALUE};
        for (int kind = 0; kind <= 6; kind++) {
            BelievedByYard x = Due.withPlaces(0);
            for (int i = 0; i < 7; i++) {
                x.tale(kind * 10 + (i * 3 + 1) % 10, 77, 0);
            }
            for (int act = 0; act <= 3; act++) {
                for (int i = 0; i < 7; i += 2) {
                    Plain p = plain(kind);
                    p.n = i;
                    p.m = (i * 3 + 1) % 10;
                    int number = numbers[(kind + act + i) % numbers.length];
                    String call = "KIND " + kind + ": voice(" + i + ", " + act + ", " + number + ")";
                    Due.is(call, x.voice(i, act, number), told(p, act, number));
                    Due.is(call + ": count(8)", x.count(8), Plain.length);
                    for (int k = 0; k < Plain.length; k++) {
                        Due.is(call + ": trace(" + k + ")", x.trace(k), Plain.trace[k]);
                    }
                }
            }
            Due.is("told(1): no ERROR by its value", x.told(1), 0);
        }
    }

    private static void trace() {
        BelievedByYard x = Due.withPlaces(0);
        x.tale(65, 0, 0);
        Due.is("trace(0) ahead of any voice()", x.trace(0), Due.NONE);
        x.voice(0, 3, 1);
        int[] bodies = {71, 11, 10, 13, 11, 10, 70, 40, 12};
        Due.is("count(8)", x.count(8), bodies.length);
        for (int i = 0; i < bodies.length; i++) {
            Due.is("trace(" + i + ")", x.trace(i), bodies[i]);
        }
        Due.is("trace(9)", x.trace(9), Due.NONE);
        Due.is("trace(-1)", x.trace(-1), Due.NONE);
        Due.is("trace(40)", x.trace(40), Due.NONE);
        Due.is("voice(1, 0, 0)", x.voice(1, 0, 0), Due.BEYOND);
        Due.is("voice(-1, 0, 0)", x.voice(-1, 0, 0), Due.BEYOND);
        Due.is("voice(0, 4, 0)", x.voice(0, 4, 0), Due.BEYOND);
        Due.is("voice(0, -1, 0)", x.voice(0, -1, 0), Due.BEYOND);
        Due.is("trace(0) after ERRORS", x.trace(0), 71);
        x.voice(0, 0, 1);
        Due.is("trace(0) of the latest", x.trace(0), 10);
        Due.is("trace(1) of the latest", x.trace(1), Due.NONE);
    }
}
