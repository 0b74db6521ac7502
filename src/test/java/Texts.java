/** Feeds texts to an object, twenty bytes a call. */
final class Texts {
    private Texts() {
    }

    /** Feeds the text, filled up with letters behind it: how many bytes the text itself has. */
    static int feed(KeptWays x, String text) {
        for (int at = 0; at < text.length(); at += 20) {
            x.feed(four(text, at), four(text, at + 4), four(text, at + 8), four(text, at + 12), four(text, at + 16));
        }
        return text.length();
    }

    static int four(String text, int at) {
        int all = 0;
        for (int i = at; i < at + 4; i++) {
            all = all << 8 | (i < text.length() ? text.charAt(i) & 255 : 'a');
        }
        return all;
    }

    static int net(KeptWays x, String text) {
        return x.net(feed(x, text));
    }

    static int orders(KeptWays x, String text) {
        return x.orders(feed(x, text));
    }

    static KeptWays withNet(String text) {
        KeptWays x = new KeptWays();
        int answer = net(x, text);
        if (answer < 0) {
            throw new IllegalStateException("net " + text + " answered " + answer);
        }
        return x;
    }
}
