/**
 * All that can be seen of an object but for trouble(), fault() and where(), as a text: objects that stand alike have like
 * pictures. Looking takes the acts back, goes to the images and reads THE TAPE: it uses the object up.
 */
final class Picture {
    /** An object is used for 512 calls; what a test has done ahead needs some, too. */
    private static final int MOST_CALLS = 420;

    private final KingHears x;
    private final StringBuilder seen = new StringBuilder();
    private int calls;

    private Picture(KingHears x) {
        this.x = x;
    }

    static String of(KingHears x) {
        Picture picture = new Picture(x);
        picture.sizes();
        picture.told();
        picture.stands();
        picture.answers();
        picture.undone();
        picture.images();
        picture.tape();
        if (picture.calls > MOST_CALLS) {
            throw new IllegalStateException("a picture of " + picture.calls + " calls");
        }
        return picture.seen.toString();
    }

    private long see(String what, long answer) {
        calls++;
        seen.append(what).append(' ').append(answer).append('\n');
        return answer;
    }

    private void sizes() {
        for (int what = 0; what < 8; what++) {
            see("size " + what, x.size(what));
        }
        see("throne", x.throne());
    }

    private int nodes() {
        calls++;
        return x.size(1);
    }

    private void told() {
        int nodes = nodes();
        for (int k = 0; k < nodes; k++) {
            for (int what = 0; what < 5; what++) {
                see("node " + k + " " + what, x.node(k, what));
            }
            if (see("kind again", x.node(k, 0)) == 3) {
                for (int part = 0; part < k; part++) {
                    see("weight " + k + " " + part, x.weight(k, part));
                }
            }
        }
    }

    /** What acts change: the words' worths and the orders. */
    private void stands() {
        int nodes = nodes();
        for (int k = 0; k < nodes; k++) {
            int parts = (int) see("parts of " + k, x.node(k, 1));
            if (parts == 0) {
                see("worth " + k, x.worth(k, false));
            }
            for (int i = 0; i < parts; i++) {
                see("part " + k + " " + i, x.part(k, i));
            }
        }
    }

    private void answers() {
        see("hears", x.hears());
        see("heard", x.heard());
        see("cuts", x.cuts());
        see("halves", x.halves());
        see("sure", x.sure());
        see("settles", x.settles());
        see("pivot", x.pivot());
        see("fits", x.fits());
        see("could", x.could());
        see("surely", x.surely());
        see("mean above", x.mean(false));
        see("mean below", x.mean(true));
        see("drawn", x.drawn(1, 2));
        see("line", x.line());
    }

    private void undone() {
        boolean more = true;
        for (int i = 0; i < 20 && more; i++) {
            more = see("undo", x.undo() ? 1 : 0) == 1;
            if (more) {
                stands();
            }
        }
    }

    private void images() {
        for (int image = 0; image < 4; image++) {
            if (see("back", x.back(image) ? 1 : 0) == 1) {
                stands();
            }
        }
        see("the image that comes next", x.image());
    }

    private void tape() {
        calls++;
        see("court of all that is on THE TAPE", x.court(x.size(7)));
        see("its fault", x.fault());
        see("its place", x.where());
        stands();
    }
}
