/**
 * All that calls can show of a county, as one text, to compare two of them. The last of these calls
 * tell and build, since some of what was told shows only then: the county is used up.
 */
final class Picture {
    private final Blockduty x;
    private final StringBuilder seen = new StringBuilder();

    private Picture(Blockduty x) {
        this.x = x;
    }

    static String of(Blockduty x) {
        Picture picture = new Picture(x);
        picture.ask();
        picture.cutAnew();
        picture.emptyBlocks();
        picture.runMore();
        picture.tellAgain();
        return picture.seen.toString();
    }

    private void see(String label, Check.Call call) {
        seen.append(label).append('=');
        try {
            seen.append(call.answer());
        } catch (RuntimeException e) {
            seen.append(e.getClass().getSimpleName());
        }
        seen.append(' ');
    }

    private void seeDigest() {
        seen.append("digest=").append(x.digest()).append(' ');
    }

    private void ask() {
        seeDigest();
        see("meanLate", () -> x.meanLate());
        for (int b = 0; b < x.many(1); b++) {
            int block = b;
            for (int k = 0; k < x.ofBlock(b, 1); k++) {
                int spot = k;
                see("at", () -> x.at(block, spot));
            }
        }
        see("bestSwap", () -> x.bestSwap(1, 0));
    }

    /** Shows SPREAD and DRIVE, and RELIEF places. */
    private void cutAnew() {
        for (int b = 0; b < x.many(1); b++) {
            int block = b;
            see("cut", () -> x.cut(block));
        }
        seeDigest();
    }

    /** Shows the order of TRIPS, and by their loss the FINE. */
    private void emptyBlocks() {
        for (int b = 0; b < x.many(1); b++) {
            int block = b;
            while (x.ofBlock(block, 1) > 0) {
                see("takeOff", () -> x.takeOff(block));
            }
        }
        seeDigest();
    }

    /** Shows X and POWER of all PLACES, and the LINES. */
    private void runMore() {
        for (int i = 0; i <= 8; i++) {
            int place = i % 8;
            int start = 480 + 80 * i;
            see("trip", () -> x.trip(place % 4, place, place, start, 10));
        }
        see("build", () -> x.build(999));
        seeDigest();
        showRelief(x.many(0) == 0 ? -1 : x.ofTrip(x.many(0) - 1, 6));
        see("driver", () -> x.driver());
        see("give", () -> x.give(0, 0, x.many(2) - 1));
        seeDigest();
    }

    /** As the last TRIP but one is as far as a PIECE can go, each place in turn decides of that. */
    private void showRelief(int block) {
        for (int k = 8; k >= 2; k--) {
            int spread = Math.max(100, 80 * k - 70);
            see("rules", () -> x.rules(spread, 300));
            see("cut", () -> x.cut(block));
            see("the first PIECE", () -> x.ofPiece(block, 0, 2));
            see("takeOff", () -> x.takeOff(block));
        }
    }

    private void tellAgain() {
        for (int i = 0; i < 4; i++) {
            int line = i;
            see("line", () -> x.line(line, 0, false));
        }
        see("rules", () -> x.rules(600, 240));
        see("winter", () -> x.winter(0, 5));
        see("block", () -> x.block(50));
        seeDigest();
    }
}
