/**
 * All that an object can be asked, as a text, so that two objects can be held against each other. It spends the object:
 * what is SEEN, IMAGES, SHEETS and THE TAPE are told by what they do.
 */
final class Account {
    private final RowShutter x;
    private final StringBuilder told = new StringBuilder();

    private Account(RowShutter x) {
        this.x = x;
    }

    static String of(RowShutter x) {
        Account account = new Account(x);
        account.counts();
        account.scene();
        account.images();
        account.sheets();
        account.tape();
        return account.told.toString();
    }

    /** What an IMAGE keeps, alone. */
    static String ofScene(RowShutter x) {
        Account account = new Account(x);
        account.scene();
        return account.told.toString();
    }

    private void add(String name, long value) {
        told.append(name).append(value).append(' ');
    }

    private void counts() {
        add("fault ", x.fault());
        add("torn ", x.torn());
        for (int what = 0; what <= 5; what++) {
            add("count ", x.count(what));
        }
    }

    private void scene() {
        for (int what = 0; what <= 7; what++) {
            add("rule ", x.rule(what));
        }
        int lamps = x.rule(0);
        for (int l = 0; l < lamps; l++) {
            told.append("lamp ");
            for (int what = 0; what <= 4; what++) {
                add("", x.lamp(l, what));
            }
        }
        told.append("rows ");
        for (int r = 0; r <= 7; r++) {
            add("", x.row(r));
        }
        seen(lamps);
    }

    private void seen(int lamps) {
        for (int n = x.count(0); n >= 0; n--) {
            add("seen ", x.forget(n));
            for (int l = 0; l < lamps; l++) {
                add("", x.phases(l));
                add("", x.kinds(l));
            }
        }
    }

    private void images() {
        for (int k = 0; k <= 1; k++) {
            int tick = x.back(k);
            add("\nimage ", tick);
            if (tick >= 0) {
                scene();
            }
        }
    }

    private void sheets() {
        x.cut(0);
        for (int l = 0; l < 4; l++) {
            x.put(1, 1, 1);
        }
        for (int k = 0; k <= 3; k++) {
            told.append("\nsheet ");
            for (int lane = 0; lane <= 2; lane++) {
                x.read(k, lane, -1, 1);
                int met = x.torn();
                add("", met);
                if (met == 2) {
                    cells(k, lane);
                }
            }
        }
    }

    private void cells(int k, int lane) {
        int came = 1;
        for (int f = 0; f < 8 && came != 0; f += 2) {
            came = x.read(k, lane, f, 1);
            add("read ", came);
            for (int l = 0; l < 4; l++) {
                add("", x.lamp(l, 3));
            }
        }
    }

    private void tape() {
        add("\ntext ", x.text());
        add("fault ", x.fault());
        told.append(ofScene(x));
    }
}
