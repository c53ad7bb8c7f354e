/** Puts texts on the tape. */
final class Text {
    static final long EIGHT_BLANKS = 0x2020202020202020L;

    private Text() {
    }

    static void put(LeftShoes x, String text) {
        for (int k = 0; k < text.length(); k += 8) {
            int n = Math.min(8, text.length() - k);
            long w = 0;
            for (int b = 0; b < n; b++) {
                w = w << 8 | text.charAt(k + b);
            }
            x.type(w, n);
        }
    }

    static int taxes(LeftShoes x, String text) {
        put(x, text);
        return x.taxes();
    }

    static int roads(LeftShoes x, String text) {
        put(x, text);
        return x.roads();
    }
}
