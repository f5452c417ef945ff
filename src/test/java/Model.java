import java.io.ByteArrayOutputStream;
import java.util.Arrays;

/** The document's answers to any run of calls: it keeps the message and works it all out anew each time. */
final class Model {
    private final byte[] keyRow = new byte[64];
    private final byte[] initial = new byte[16];
    private ByteArrayOutputStream message = new ByteArrayOutputStream();
    private Reference reference;
    private byte[] given = new byte[0];
    private int mode;
    private int shows;
    private boolean open = false;

    boolean key(int i, long v) {
        if (i < 0 || i > 7) {
            return false;
        }
        Calls.putLong(keyRow, 8 * i, v);
        return true;
    }

    boolean initial(int i, long v) {
        if (i < 0 || i > 1) {
            return false;
        }
        Calls.putLong(initial, 8 * i, v);
        return true;
    }

    int begin(int newMode, int words, int newShows) {
        boolean fineKey = words == 4 || words == 8 || (words == 6 && newMode != 10);
        if (newMode < 0 || newMode > 10 || !fineKey || (newShows != 0 && newShows != 1)) {
            return -1;
        }
        mode = newMode;
        shows = newShows;
        reference = new Reference(keyRow.clone(), initial.clone(), words);
        message = new ByteArrayOutputStream();
        given = new byte[0];
        open = true;
        return 0;
    }

    int feed(long bytes, int n) {
        if (n < 1 || n > 8) {
            return -1;
        }
        if (!open) {
            return -2;
        }
        for (int i = n - 1; i >= 0; i--) {
            message.write((int) (bytes >> (8 * i)));
        }
        int count = Reference.dueCount(mode, shows, message.size());
        // Before the end, padding and stealing have not yet touched what is given out.
        int plainMode = mode >= 2 && mode <= 5 ? 1 : mode;
        byte[] come = Arrays.copyOf(message.toByteArray(), count);
        given = shows == 0 ? reference.hide(plainMode, come) : reference.show(plainMode, come);
        return count;
    }

    int end() {
        if (!open) {
            return -2;
        }
        open = false;
        byte[] come = message.toByteArray();
        boolean fine = shows == 0 ? Reference.canBeHidden(mode, come.length) : Reference.canBeShown(mode, come.length);
        if (!fine) {
            return -101;
        }
        byte[] all = shows == 0 ? reference.hide(mode, come) : reference.show(mode, come);
        if (mode == 2 && shows == 1) {
            int padding = paddingOf(all);
            if (padding == 0) {
                return -102;
            }
            all = Arrays.copyOf(all, all.length - padding);
        }
        given = all;
        return given.length;
    }

    /** How many bytes hiding has put behind the message; 0 if it can't have put these there. */
    private static int paddingOf(byte[] row) {
        int more = row[row.length - 1];
        for (int i = 1; i <= 16 && i <= more; i++) {
            if (row[row.length - i] != more) {
                return 0;
            }
        }
        return more >= 1 && more <= 16 ? more : 0;
    }

    int given(int i) {
        return i >= 0 && i < given.length ? given[i] & 255 : -1;
    }

    long block(int words, int newShows, int i) {
        if ((words != 4 && words != 6 && words != 8) || (newShows != 0 && newShows != 1) || (i != 0 && i != 1)) {
            return 0;
        }
        Reference asked = new Reference(keyRow, initial, words);
        return Calls.longAt(newShows == 0 ? asked.hide(0, initial) : asked.show(0, initial), 8 * i);
    }
}
