import java.util.NoSuchElementException;
import java.util.Random;

/**
 * Runs of calls with any arguments: each throws only what the document names for it, and the same
 * calls give the same answers.
 */
public final class RandomCallsTest {
    private static final int RUNS = 3000;
    private static final int CALLS = 512;
    /** Of one row: wiping, writing five times at most, and the call itself. */
    private static final int CALLS_OF_A_ROW = 7;
    private static final String LAYER_CHARACTERS = "abcdefgh0123456789<=!$#*()?>";
    private static final String FILTER_CHARACTERS = "abcdefgh0123$=<>~,|&!()";
    private static final String[] LAYER_TEXTS = {
        "a8>a", "a4b4c8$*", "#*(a8?a<9(b4c4))>a", "a1b7c16<d4=2$b>c", "a8#a(b8#b(c3))$*",
        "a8b8!$*>b", "a3?a=1(b16<!)?a<3($a)#*(c1)", "a24<b32<$a>b", "#*(#*(#*(a1)))>a",
        "a2$a?a=0(b6)$*>a"
    };
    private static final String[] FILTER_TEXTS = {
        "0a", "0a=1,2,3", "!0a&1b|0$>1", "(0a~3|2c<9)&!3h", "!(!(0b)|!(0c))", "1a>5|1a<2&0$"
    };

    private final Random random;
    private final CaptureBench bench = new CaptureBench();
    private long answers = 0;
    private int calls = 0;

    private RandomCallsTest(long seed) {
        random = new Random(seed);
    }

    public static void main(String[] args) {
        for (int run = 0; run < RUNS; run++) {
            long first = new RandomCallsTest(run).answersOfOneRun();
            if (run % 10 == 0) {
                long second = new RandomCallsTest(run).answersOfOneRun();
                Checks.due("run " + run + " again", second, first);
            }
        }
        Checks.end();
    }

    /** Counts the call, since nothing is promised of an object after its 512th one. */
    private CaptureBench bench() {
        calls++;
        return bench;
    }

    private long answersOfOneRun() {
        while (calls + CALLS_OF_A_ROW <= CALLS) {
            call(random.nextInt(19));
        }
        return answers;
    }

    private int number(int bound) {
        if (random.nextInt(30) == 0) {
            return random.nextBoolean() ? random.nextInt() : random.nextInt(5) - 3;
        }
        return random.nextInt(bound);
    }

    private void call(int which) {
        int thrown = 0;
        long answer = 0;
        try {
            answer = answerOf(which);
        } catch (IllegalArgumentException e) {
            thrown = 1;
        } catch (IllegalStateException e) {
            thrown = 2;
        } catch (IndexOutOfBoundsException e) {
            // The machine's own are subclasses, and never due.
            thrown = e.getClass() == IndexOutOfBoundsException.class ? 4 : 32;
        } catch (NoSuchElementException e) {
            thrown = 8;
        } catch (RuntimeException e) {
            thrown = 16;
        }
        int allowed = allowed(which);
        Checks.due("call " + which + " throws only what it may", thrown & ~allowed, 0);
        answers = answers * 31 + answer * 7 + thrown;
    }

    private static int allowed(int which) {
        switch (which) {
            case 0: case 2: case 3: case 8: case 12: case 15:
                return 1;
            case 4: case 5:
                return 1 | 2;
            case 6: case 7: case 10:
                return 4;
            case 9: case 16: case 17:
                return 1 | 4;
            case 13: case 14:
                return 1 | 8;
            default:
                return 0;
        }
    }

    private long answerOf(int which) {
        switch (which) {
            case 0: return bench().write(1 + number(8), random.nextLong());
            case 1: return bench().wipe();
            case 2: return describe();
            case 3: bench().root(number(2), number(4)); return 0;
            case 4: bench().follow(number(4), number(5), number(5) - 1); return 0;
            case 5: return bench().frame(number(2), number(50));
            case 6: return random.nextInt(4) == 0 ? bench().drop(number(12)) : 0;
            case 7: return bench().decode(number(12));
            case 8: bench().limit(1 + number(64)); return 0;
            case 9: return bench().entry(number(6), number(8), number(5));
            case 10: return bench().value(number(6), number(8));
            case 11: return bench().streamed(number(64));
            case 12: return makeFilter();
            case 13: return bench().next(number(4), number(12));
            case 14: return bench().total(number(4), number(4), number(9), number(4));
            case 15: return bench().talks(number(4), number(3), number(4), number(3));
            case 16: return bench().talk(number(3), number(6));
            case 17: return bench().stream(number(2), number(4), number(3));
            default: return fillFrame();
        }
    }

    private int describe() {
        writeText(LAYER_TEXTS, LAYER_CHARACTERS);
        return bench().layer(number(4));
    }

    private int makeFilter() {
        writeText(FILTER_TEXTS, FILTER_CHARACTERS);
        return bench().filter(number(4));
    }

    private int fillFrame() {
        bench().wipe();
        StringBuilder bytes = new StringBuilder();
        for (int k = random.nextInt(12); k >= 0; k--) {
            bytes.append((char) random.nextInt(random.nextBoolean() ? 4 : 256));
        }
        return write(bytes);
    }

    private void writeText(String[] texts, String characters) {
        bench().wipe();
        StringBuilder text = new StringBuilder(texts[random.nextInt(texts.length)]);
        for (int k = random.nextInt(4) - 1; k > 0; k--) {
            text.insert(random.nextInt(text.length() + 1),
                    characters.charAt(random.nextInt(characters.length())));
        }
        write(text);
    }

    private int write(CharSequence text) {
        int size = 0;
        for (int from = 0; from < text.length(); from += 8) {
            int n = Math.min(8, text.length() - from);
            long packed = 0;
            for (int k = n - 1; k >= 0; k--) {
                packed = packed << 8 | text.charAt(from + k);
            }
            size = bench().write(n, packed);
        }
        return size;
    }
}
