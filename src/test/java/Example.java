/** The example of README.md, which must be this file word for word; ReadmeTest looks to it. */
public final class Example {
    public static void main(String[] args) {
        StepsByHand x = new StepsByHand();

        // Two props on trays 0 and 1; three cues: frame, how long, prop, loud; speech: frame, how long, loud.
        show(tell(x, "prop 0; prop 1; cue 0 10 0 5; cue 5 10 1 4 talk; cue 8 6 0 9; speech 0 8 5;")); // 6 lines
        show(x.passes(7, 0));  // 2 passes for cues 0, 1, 2 (bits 1 + 2 + 4): 0 and 2 are at once on one tray
        show(x.plan(7, 2, 0)); // 1: cue 2 is done in the second pass
        show(x.heard(0, 1));   // 8: the first frame in which cue 0 is louder than the speech
        show(x.clips(7, 2));   // 18: the greatest level
        show(x.carry(7, 1));   // 3: props 0 and 1 (bits 1 + 2) must be there

        // The picture's hits, then those of a take that comes two frames too early.
        show(x.hit(0, 10));    // 1 hit of the picture
        show(x.hit(0, 40));    // 2
        show(x.hit(1, 8));     // 1 hit of the take
        show(x.slip(0));       // -1002: not as many of both, which is STATE for this call
        show(x.hit(1, 38));    // 2
        show(x.slip(0));       // 2: it is moved so far

        // A cue read from a sheet of shorts; of a second one the sheet has but three cells.
        show(x.sheet(0, 1, 7)); // 1
        show(x.lay(0, 0, 100)); // 1
        show(x.lay(0, 1, 20));  // 1
        show(x.lay(0, 3, 7));   // 1
        show(x.read(0, 1, 0, 2)); // 1 came
        show(x.torn());         // 2: INDEX stopped the second
        show(x.cue(3, 0));      // 100: where the new cue begins

        // What is refused answers below 0 and changes nothing; a text empties THE TAPE all the same.
        show(x.cue(16, 0));     // -1: BAD
        show(tell(x, "prop 6;")); // -15: the fault is at place 5
        show(x.fault());        // 3: a number out of its bounds
        show(x.count(0));       // 2 props still
    }

    private static void show(int answer) {
        System.out.println(answer);
    }

    /** Puts a text on THE TAPE, eight bytes a call, the highest first, and has it read. */
    private static int tell(StepsByHand x, String text) {
        for (int at = 0; at < text.length(); at += 8) {
            long v = 0;
            for (int i = at; i < at + 8; i++) v = v << 8 | (i < text.length() ? text.charAt(i) : ' ');
            if (x.feed(v) < 0) return StepsByHand.FULL;
        }
        x.end(text.length());
        return x.text();
    }
}
