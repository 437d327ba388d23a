import java.util.Random;

/** Promises 2 to 5: texts by chance, whole and spoilt, read as the plain model reads them. */
public final class RandomFaultsTest {
    public static void main(String[] args) {
        Check check = new Check();
        Random random = new Random(20261118);
        RandomTexts texts = new RandomTexts(random);
        int[] seen = new int[6];
        WindowLoans x = new WindowLoans();
        for (int k = 0; k < 60000; k++) {
            x = k % 8 == 0 ? new WindowLoans() : x;
            String text = texts.whole();
            if (k % 3 == 0) {
                text = "law due " + texts.flat(1 + random.nextInt(12)) + ";";
            }
            if (k % 3 != 2) {
                text = texts.spoilt(text);
            }
            if (text.length() <= 700) {
                seen[compare(check, x, text)]++;
            }
        }
        for (int fault = 0; fault < seen.length; fault++) {
            check.due("texts with fault " + fault + " were tried", seen[fault] > 20, true);
        }
        check.end();
    }

    /** Some texts come to the same object, so that nothing of one may linger in the next. */
    private static int compare(Check check, WindowLoans x, String text) {
        int before = told(x);
        int lines = Check.tell(x, text);
        String call = "'" + text + "'";
        try {
            PlainModel model = new PlainModel(text);
            check.due(call + " lines", lines, model.lines);
            check.due(call + " fault", x.fault(0), 0);
            check.due(call + " place", x.fault(1), -1);
            check.due(call + " knots", x.count(4), model.knots);
            check.due(call + " houses", x.count(0), model.houses.size());
            check.due(call + " holes", x.count(1), model.holes.size());
            check.due(call + " panes", x.count(2), model.panes.size());
            check.due(call + " feasts", x.count(3), model.feasts.size());
            for (int k = 0; k < model.panes.size(); k++) {
                check.due(call + " pane", x.named(2, Check.letters(model.panes.get(k).name())), k);
                check.due(call + " pane's hole", x.look(k, 0), model.panes.get(k).hole());
            }
            return 0;
        } catch (PlainModel.Fault fault) {
            check.due(call + " lines", lines, -1);
            check.due(call + " fault", x.fault(0), fault.number);
            check.due(call + " place", x.fault(1), fault.place);
            check.due(call + " all stays", told(x), before);
            return fault.number;
        }
    }

    private static int told(WindowLoans x) {
        int told = 0;
        for (int what = 0; what < 5; what++) {
            told = told * 65 + x.count(what);
        }
        return told;
    }
}
