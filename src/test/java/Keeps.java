import java.util.NoSuchElementException;

/** Makes keeps from pictures and writes all that can be asked of one; the tests share it. */
final class Keeps {
    private Keeps() {
    }

    /** Row by row; '@' is a floor with the hero, of speed 12 and health 30; a blank is rock. */
    static DelveKeep dug(String... rows) {
        DelveKeep keep = new DelveKeep();
        for (int y = 0; y < rows.length; y++) {
            for (int x = 0; x < rows[y].length(); x++) {
                char sign = rows[y].charAt(x);
                if (sign == '@') {
                    keep.setHero(x, y, 12, 30);
                }
                keep.dig(x, y, sign == '@' ? '.' : sign == ' ' ? '#' : sign);
            }
        }
        return keep;
    }

    static DelveKeep open() {
        String row = "............";
        return dug(row, row, row, row, row, row, row, row, row, row, row, row);
    }

    /** The cells of a way that winds through the whole cave, 77 of them, as 100 x + y. */
    static int[] winding() {
        int[] way = new int[77];
        int count = 0;
        for (int y = 0; y < 12; y += 2) {
            for (int step = 0; step < 12; step++) {
                way[count++] = 100 * (y % 4 == 0 ? step : 11 - step) + y;
            }
            if (y < 10) {
                way[count++] = (y % 4 == 0 ? 1100 : 0) + y + 1;
            }
        }
        return way;
    }

    static DelveKeep wound(int[] way) {
        DelveKeep keep = new DelveKeep();
        for (int place : way) {
            keep.dig(place / 100, place % 100, '.');
        }
        return keep;
    }

    static void rest(DelveKeep keep, int turns) {
        for (int i = 0; i < turns; i++) {
            keep.rest();
        }
    }

    /** All that can be asked, one answer a line, so that two keeps can be told apart. */
    static String all(DelveKeep keep) {
        StringBuilder text = new StringBuilder();
        boolean isOn = keep.state() == 'o';
        text.append(keep.state()).append(keep.tick()).append('\n');
        for (int y = 0; y < 12; y++) {
            for (int x = 0; x < 12; x++) {
                text.append(keep.cell(x, y));
                if (isOn) {
                    text.append(keep.heroSees(x, y) ? 's' : '-').append(keep.isReachable(x, y) ? 'r' : '-');
                }
            }
            text.append('\n');
        }
        for (int i = 0; i < creatures(keep); i++) {
            text.append("creature ").append(i).append(' ').append(keep.placeOf(i)).append(' ');
            text.append(keep.healthOf(i)).append(' ').append(i == 0 ? -1 : aim(keep, i)).append('\n');
        }
        for (int i = 0; i < things(keep); i++) {
            text.append("thing ").append(i).append(' ').append(keep.whereIs(i)).append(' ');
            text.append(keep.weightOf(i)).append(' ').append(isOn ? keep.nameOf(i) : -1).append('\n');
        }
        return text.toString();
    }

    /** The aim, or -1 for none. */
    static int aim(DelveKeep keep, int beast) {
        try {
            return keep.aimOf(beast);
        } catch (NoSuchElementException e) {
            return -1;
        }
    }

    static int creatures(DelveKeep keep) {
        int count = 0;
        try {
            while (true) {
                keep.placeOf(count);
                count++;
            }
        } catch (IndexOutOfBoundsException e) {
            return count;
        }
    }

    static int things(DelveKeep keep) {
        int count = 0;
        try {
            while (true) {
                keep.whereIs(count);
                count++;
            }
        } catch (IndexOutOfBoundsException e) {
            return count;
        }
    }
}
