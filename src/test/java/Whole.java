/** All that an object tells of itself, as one text: two such texts are alike if nothing has changed between. */
final class Whole {
    /** So many seats and minutes are asked for at most, as an object has 512 calls. */
    private static final int SEATS = 12;
    private static final int MINUTES = 6;

    private Whole() {
    }

    static String of(DeafSpot x) {
        StringBuilder text = new StringBuilder();
        for (int what = 0; what <= 16; what++) {
            text.append(x.count(what)).append(' ');
        }
        for (int guest = 0; guest < x.count(2); guest++) {
            text.append('g');
            for (int what = 0; what <= 4; what++) {
                text.append(x.guest(guest, what)).append(' ');
            }
        }
        for (int fan = 0; fan < x.count(3); fan++) {
            text.append('f');
            for (int what = 0; what <= 3; what++) {
                text.append(x.fan(fan, what)).append(' ');
            }
        }
        seats(x, text);
        text.append('l');
        for (int ago = 1; ago <= Math.min(MINUTES, x.count(15)); ago++) {
            text.append(x.log(ago, 0)).append(',').append(x.log(ago, 1)).append(' ');
        }
        for (int law = 0; law < x.count(5); law++) {
            text.append('t').append(x.there(law, 1, 0)).append(',').append(x.there(law, 1, 1)).append(' ');
        }
        return text.toString();
    }

    private static void seats(DeafSpot x, StringBuilder text) {
        int columns = Math.max(1, x.count(0));
        int seats = Math.min(SEATS, x.count(0) * x.count(1));
        for (int seat = 0; seat < seats; seat++) {
            int column = seat % columns;
            int row = seat / columns;
            text.append('s').append(x.seat(column, row, 0)).append(' ').append(x.seat(column, row, 1)).append(' ');
            text.append(x.seat(column, row, 2)).append(' ').append(x.hushed(column, row)).append(' ');
        }
    }
}
