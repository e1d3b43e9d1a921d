/** All that can be told of an object, in one text, so that two objects can be compared. */
final class State {
    private State() {
    }

    /** As it is; what is looked at is put back. */
    static String of(LeanCity x) {
        StringBuilder all = new StringBuilder();
        all.append("fault ").append(x.fault()).append(" tape ").append(tapeOf(x)).append(" count");
        for (int what = 0; what <= 11; what++) {
            all.append(' ').append(x.count(what));
        }
        int seed = x.seed(0);
        x.seed(seed);
        all.append(" seed ").append(seed);
        for (int h = 0; h < x.count(0); h++) {
            all.append("\n  house ").append(h).append(':');
            for (int what = 0; what <= 12; what++) {
                all.append(' ').append(x.house(h, what));
            }
            all.append(" parts");
            for (int other = 0; other < x.count(0); other++) {
                all.append(' ').append(x.part(h, other));
            }
        }
        for (int p = 0; p < x.count(1); p++) {
            all.append("\n  person ").append(p).append(':');
            for (int what = 0; what <= 2; what++) {
                all.append(' ').append(x.person(p, what));
            }
        }
        for (int ago = 0; ago < x.count(10); ago++) {
            all.append("\n  row ").append(ago).append(':');
            for (int what = 0; what <= 5; what++) {
                all.append(' ').append(x.log(ago, what));
            }
        }
        return all.toString();
    }

    /** With what is behind an act undone, and what the image is; the object is not as it was behind this. */
    static String deep(LeanCity x) {
        StringBuilder all = new StringBuilder(of(x));
        all.append("\n undone ").append(x.undo()).append(' ').append(of(x));
        all.append("\n back ").append(x.back()).append(' ').append(of(x));
        return all.toString();
    }

    static int tapeOf(LeanCity x) {
        int length = x.feed(0, 0, 0, 0, 0) - 20;
        if (length < 0) {
            length = 400;
            while (!x.end(length)) {
                length--;
            }
        }
        x.end(length);
        return length;
    }
}
