/** All that can be asked of an object, as one text; asking must change nothing. */
final class Picture {
    private Picture() {
    }

    static String of(ShareMonitor m) {
        StringBuilder all = new StringBuilder();
        all.append("fault ").append(m.fault());
        for (int what = 0; what <= 10; what++) {
            all.append(" c").append(m.count(what));
        }
        for (int p = 1; p <= 12; p++) {
            drawProcess(m, p, all);
        }
        all.append("\nrows");
        int inRows = 0;
        for (int level = 0; level < 3; level++) {
            all.append(" /");
            for (int i = 0; i < 12 && inRows < m.count(6); i++) {
                int who = readyOrNone(m, level, i);
                if (who == ShareMonitor.NONE) {
                    break;
                }
                inRows++;
                all.append(' ').append(who);
            }
        }
        all.append("\nmemory");
        for (int k = 0; k < m.count(4); k++) {
            all.append(' ').append(m.block(k, 0)).append('+').append(m.block(k, 1)).append(':').append(m.block(k, 2));
        }
        for (int address = 0; address < 1024; address++) {
            if (m.cell(address) != 0) {
                all.append(' ').append(address).append('=').append(m.cell(address));
            }
        }
        for (int k = 0; k < 8; k++) {
            all.append("\nsemaphore ").append(m.semaphore(k, 0));
            for (int i = 0; i < m.semaphore(k, 1); i++) {
                all.append(' ').append(m.semaphore(k, 2 + i));
            }
        }
        all.append("\nconsole");
        for (int i = 0; i < m.count(1); i++) {
            all.append(' ').append(m.out(i));
        }
        return all.toString();
    }

    private static void drawProcess(ShareMonitor m, int p, StringBuilder all) {
        all.append("\nprocess ").append(p).append(':');
        for (int what = 0; what <= 12; what++) {
            all.append(' ').append(m.state(p, what));
        }
        all.append(" stack");
        for (int i = 0; i < m.state(p, 5); i++) {
            all.append(' ').append(m.stack(p, i));
        }
        all.append(" box");
        for (int i = 0; i < m.state(p, 7); i++) {
            all.append(' ').append(m.message(p, i, false)).append('<').append(m.message(p, i, true));
        }
    }

    private static int readyOrNone(ShareMonitor m, int level, int i) {
        try {
            return m.ready(level, i);
        } catch (IndexOutOfBoundsException e) {
            return ShareMonitor.NONE;
        }
    }
}
