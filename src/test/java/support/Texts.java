/** Feeds texts to an object by its tape. */
final class Texts {
    private Texts() {
    }

    /** A new object with that text. */
    static KeptTree of(String text) {
        KeptTree x = new KeptTree();
        load(x, text);
        return x;
    }

    static int load(KeptTree x, String text) {
        tape(x, text);
        return x.load(text.length());
    }

    /** Puts the text at the head of the tape, which has to be empty; blanks fill it up. */
    static void tape(KeptTree x, String text) {
        StringBuilder all = new StringBuilder(text);
        while (all.length() % 20 != 0) {
            all.append(' ');
        }
        for (int i = 0; i < all.length(); i += 20) {
            x.feed(four(all, i), four(all, i + 4), four(all, i + 8), four(all, i + 12), four(all, i + 16));
        }
    }

    static int edit(KeptTree x, int a, int b, String text) {
        tape(x, text);
        return x.edit(a, b, text.length());
    }

    static int rename(KeptTree x, int node, String text) {
        tape(x, text);
        return x.rename(node, text.length());
    }

    static int four(CharSequence all, int i) {
        return (all.charAt(i) & 255) << 24 | (all.charAt(i + 1) & 255) << 16
                | (all.charAt(i + 2) & 255) << 8 | (all.charAt(i + 3) & 255);
    }

    /** The object's text, by its octets. */
    static String text(KeptTree x) {
        StringBuilder all = new StringBuilder();
        int many = x.count(0);
        for (int i = 0; i < many; i++) {
            all.append((char) x.octet(i));
        }
        return all.toString();
    }
}
