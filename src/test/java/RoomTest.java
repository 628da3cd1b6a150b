import com.sun.management.ThreadMXBean;
import java.lang.management.ManagementFactory;

/** What the calls of one object make stays far below the room of a run, however dear they are. */
public final class RoomTest {
    /** Some 7.3 million elements of four bytes are the room of a whole run. */
    private static final long MOST_BYTES = 4L * 2000000;
    private static final ThreadMXBean MADE = (ThreadMXBean) ManagementFactory.getThreadMXBean();

    public static void main(String[] args) {
        Works.begun("1 + 2");
        long ordinary = bytesOf("1 + 2", 1, 1);
        Works.due("an ordinary object is small", ordinary < 100000 ? 0 : ordinary, 0);
        fullFrames();
        fullRecords();
        fullContinuations();
        manyReads();
        manyTypes();
        manyStarts();
        Works.finish();
    }

    /** 400 calls, each with as many values that wait as one EXPR in another can have. */
    private static void fullFrames() {
        String body = Works.times(46, "1<1+1*f(") + "true" + Works.times(46, ")");
        String text = "rec f(b:bool):int=f(" + body + ") in f true";
        Works.ends(text, 6, 0, 401, 1, 400);
        isSmall("full frames", bytesOf(text, 100, 3));
    }

    /** 1000 functions, most of them with more than 80 names around them. */
    private static void fullRecords() {
        String text = Works.times(40, "rec f(x:int):int=") + Works.times(3, "let z=fn(u:int)->u in ")
            + "f(x+1)" + Works.times(40, " in f 1");
        Works.ends(text, 5, 0, 360, 1000, 360);
        isSmall("full records", bytesOf(text, 100, 1));
    }

    /** Continuations of 200 calls each, and each call with many values that wait. */
    private static void fullContinuations() {
        String body = Works.times(40, "1+1*g(") + "f(n-1)" + Works.times(40, ")");
        String text = "effect E:int->int;let g=fn(x:int)->x in rec f(n:int):int{E}=if n=0 then E!(E!(E!(E!1))) else "
            + body + " in handle f 190 with return x->x|E a k->k a end";
        Works works = Works.begun(text);
        works.run(2000);
        works.run(2000);
        Works.due("state(0)", works.x.state(0), 1);
        Works.due("state(3)", works.x.state(3), 3 + 4 * 193);
        isSmall("full continuations", bytesOf(text, 100, 4));
    }

    private static void manyReads() {
        StringBuilder text = new StringBuilder("1");
        for (int i = 0; i < 299; i++) {
            text.append("+1");
        }
        isSmall("many reads", bytesOf(text.toString(), 10, 1));
    }

    /** Each text has other types than those ahead of it. */
    private static void manyTypes() {
        String[] types = {"int", "bool", "unit"};
        FiberWorks x = new FiberWorks();
        int[] five = new int[5];
        long made = 0;
        for (int i = 0; i < 50; i++) {
            StringBuilder text = new StringBuilder("1");
            for (int j = 0, digits = i; j < 6; j++, digits /= 3) {
                text.insert(0, "fn(x:" + types[digits % 3] + ")->");
            }
            putInto(x, text.toString(), five);
            long before = MADE.getCurrentThreadAllocatedBytes();
            x.read();
            made += MADE.getCurrentThreadAllocatedBytes() - before;
        }
        Works.due("many types stay below an object's room", made < 2000 ? 0 : made, 0);
    }

    /** What a run has made is given back when the program begins anew. */
    private static void manyStarts() {
        String text = "rec f(x:int):int=let g=fn(y:int)->y in 1+f(g x) in f 1";
        FiberWorks x = new FiberWorks();
        putInto(x, text, new int[5]);
        x.read();
        long before = MADE.getCurrentThreadAllocatedBytes();
        for (int i = 0; i < 200; i++) {
            x.start();
            x.run(2000);
        }
        long made = MADE.getCurrentThreadAllocatedBytes() - before;
        Works.due("many starts stay below an object's room", made < 100000 ? 0 : made, 0);
    }

    private static void isSmall(String what, long bytes) {
        Works.due(what + " stay below the room", bytes < MOST_BYTES ? 0 : bytes, 0);
    }

    /** What one object makes that reads the text so often and then runs it so often. */
    private static long bytesOf(String text, int reads, int runs) {
        long before = MADE.getCurrentThreadAllocatedBytes();
        FiberWorks x = new FiberWorks();
        long made = MADE.getCurrentThreadAllocatedBytes() - before;
        int[] five = new int[5];
        for (int i = 0; i < reads; i++) {
            putInto(x, text, five);
            long start = MADE.getCurrentThreadAllocatedBytes();
            x.read();
            x.start();
            for (int j = 0; j < runs; j++) {
                x.run(2000);
            }
            made += MADE.getCurrentThreadAllocatedBytes() - start;
        }
        return made;
    }

    private static void putInto(FiberWorks x, String text, int[] five) {
        for (int i = 0; i < text.length(); i += 20) {
            int n = Math.min(20, text.length() - i);
            java.util.Arrays.fill(five, 0);
            for (int j = 0; j < n; j++) {
                five[j / 4] |= text.charAt(i + j) << (24 - 8 * (j % 4));
            }
            x.feed(five[0], five[1], five[2], five[3], five[4]);
            x.end(n);
        }
    }
}
