/** Puts bytes on the tape of a SeasonWalks. */
final class Tapes {
    private Tapes() {
    }

    static void bytes(SeasonWalks x, int... told) {
        if (x.end(1)) {
            throw new IllegalStateException("the tape was not empty");
        }
        for (int from = 0; from < told.length; from += 20) {
            x.feed(number(told, from), number(told, from + 4), number(told, from + 8),
                    number(told, from + 12), number(told, from + 16));
        }
        x.end(told.length);
    }

    static void text(SeasonWalks x, String text) {
        bytes(x, text.chars().toArray());
    }

    static int cloister(SeasonWalks x, String text) {
        text(x, text);
        return x.cloister();
    }

    static int law(SeasonWalks x, String text) {
        text(x, text);
        return x.law();
    }

    static SeasonWalks told(String text) {
        SeasonWalks x = new SeasonWalks();
        cloister(x, text);
        return x;
    }

    private static int number(int[] told, int from) {
        int number = 0;
        for (int i = from; i < from + 4; i++) {
            number = number << 8 | (i < told.length ? told[i] & 255 : 0);
        }
        return number;
    }
}
