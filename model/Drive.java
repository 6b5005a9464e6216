import java.io.*;
import java.util.*;
public final class Drive {
    public static void main(String[] a) throws Exception {
        BufferedReader in = new BufferedReader(new InputStreamReader(System.in));
        PrintStream out = new PrintStream(new BufferedOutputStream(System.out, 1 << 16));
        com.sun.management.ThreadMXBean mx = (com.sun.management.ThreadMXBean) java.lang.management.ManagementFactory.getThreadMXBean();
        MatchHouse x = null; String line; long worst = 0, slow = 0; String slowCall = "";
        long id = Thread.currentThread().getId();
        while ((line = in.readLine()) != null) {
            String[] p = line.split(" ");
            long r = 0;
            try {
                if (p[0].equals("new")) { x = new MatchHouse(); out.println("new"); continue; }
                int[] n = new int[p.length];
                for (int i = 1; i < p.length; i++) n[i] = p[i].equals("true") ? 1 : p[i].equals("false") ? 0 : Integer.parseInt(p[i]);
                long before = mx.getThreadAllocatedBytes(id); long t0 = System.nanoTime();
                switch (p[0]) {
                    case "feed": r = x.feed(n[1], n[2], n[3], n[4], n[5]); break;
                    case "end": r = x.end(n[1]); break;
                    case "module": r = x.module(); break;
                    case "count": r = x.count(n[1]); break;
                    case "value": r = x.value(); break;
                    case "named": r = x.named(); break;
                    case "drop": r = x.drop(); break;
                    case "about": r = x.about(n[1], n[2]); break;
                    case "alike": r = x.alike(n[1], n[2]); break;
                    case "fits": r = x.fits(n[1], n[2]); break;
                    case "within": r = x.within(n[1], n[2]); break;
                    case "many": r = x.many(n[1], n[2]); break;
                    case "lightest": r = x.lightest(n[1]); break;
                    case "tell": r = x.tell(n[1]); break;
                    case "letter": r = x.letter(n[1]); break;
                    case "met": r = x.met(n[1], n[2]); break;
                    case "why": r = x.why(n[1]); break;
                    case "encode": r = x.encode(n[1], n[2]); break;
                    case "bit": r = x.bit(n[1]); break;
                    case "bits": r = x.bits(n[1], n[2]); break;
                    case "noBits": r = x.noBits(); break;
                    case "decode": r = x.decode(n[1]); break;
                    case "begin": r = x.begin(n[1]); break;
                    case "run": r = x.run(n[1], n[2]); break;
                    case "clock": r = x.clock(n[1]); break;
                    case "give": r = x.give(n[1], n[2], n[3]); break;
                    case "state": r = x.state(n[1], n[2]); break;
                    case "all": r = x.all(n[1]); break;
                    case "queue": r = x.queue(n[1], n[2]); break;
                    case "queued": r = x.queued(n[1], n[2], n[3]); break;
                    case "timer": r = x.timer(n[1], n[2]); break;
                    case "variable": r = x.variable(n[1], n[2]); break;
                    case "event": r = x.event(n[1], n[2]); break;
                    case "eventValue": r = x.eventValue(n[1]); break;
                    case "move": r = x.move(n[1], n[2], n[3], n[4], n[5] == 1); break;
                    case "conforms": r = x.conforms(n[1], n[2]); break;
                    case "row": r = x.row(n[1]); break;
                    case "can": r = x.can(n[1], n[2], n[3]); break;
                    default: throw new IllegalStateException(p[0]);
                }
                long used = mx.getThreadAllocatedBytes(id) - before; long t = System.nanoTime() - t0;
                if (used > worst) worst = used;
                if (t > slow) { slow = t; slowCall = line; }
                out.println(r);
            } catch (Throwable e) {
                out.println("EXC " + e + " " + Arrays.toString(Arrays.copyOf(e.getStackTrace(), 4)));
            }
        }
        out.flush();
        System.err.println("worst alloc " + worst + " slowest " + slow / 1000 + "us " + slowCall);
    }
}
