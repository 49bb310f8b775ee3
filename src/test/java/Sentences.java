/** Asks for each sentence of the document by itself, and tells the sentences that do not hold. */
final class Sentences {
    private int held = 0;
    private int broken = 0;

    /** Asks whether one sentence holds. */
    interface Question {
        void ask(Check check);
    }

    void ask(String sentence, Question question) {
        Check check = new Check();
        try {
            question.ask(check);
        } catch (RuntimeException | Error e) {
            check.holds("nothing is thrown, but " + e + " was at " + e.getStackTrace()[0], false);
        }
        if (check.isClean() && check.asked() > 0) {
            held++;
        } else {
            broken++;
            System.out.println("BROKEN: " + sentence);
        }
    }

    /** Ends the program with exit code 1 if a sentence did not hold, or if none was asked. */
    void end() {
        System.out.println(held + " sentences hold, " + broken + " do not");
        if (broken != 0 || held == 0) {
            System.exit(1);
        }
    }
}
