/** The example of README.md. */
public final class Example {
    private Example() {
    }

    // Twenty bytes by each call; the last ones are filled up with blanks.
    static int feed(HalfAccuser x, String text) {
        for (int i = 0; i < text.length(); i += 20) {
            int[] five = new int[5];
            for (int k = 0; k < 20; k++) {
                int c = i + k < text.length() ? text.charAt(i + k) : ' ';
                five[k / 4] = five[k / 4] << 8 | c;
            }
            x.feed(five[0], five[1], five[2], five[3], five[4]);
        }
        return text.length();
    }

    public static void main(String[] args) {
        HalfAccuser x = new HalfAccuser();
        int deeds = x.city(feed(x, "jurors 3; person ann skill 4; person bob coins 200;"
                + " deed theft of bob fine 100 odds 8;"));
        System.out.println("deeds " + deeds + ", status " + x.status());

        x.gain(0, 0);
        System.out.println("ann gains " + x.top() + "/" + x.bottom() + " by the theft in the mean");
        System.out.println("she may drop it for " + x.trade(0, 0, 0) + " to " + x.trade(0, 0, 1) + " coins");

        x.mark();
        System.out.println("by 2 votes she has " + x.charge(0, 0, 2) + " coins, the treasury " + x.many(6));
        System.out.println("again: " + x.charge(0, 0, 2) + ", status " + x.status());
        x.back();

        int steps = x.years(feed(x, "loop 2; earn ann 5; end; charge ann theft;"));
        System.out.println("years of " + steps + " steps, " + x.live(7) + " come to, " + x.lived(2) + " won");

        int refused = x.city(feed(x, "person ann coins many;"));
        System.out.println(refused + ", status " + x.status() + ": fault " + x.fault(0) + " at " + x.fault(1));
    }
}
