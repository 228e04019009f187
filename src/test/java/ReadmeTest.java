import java.util.Scanner;
import java.util.regex.Matcher;
import java.util.regex.Pattern;

/** README.md, which is the input: each call told there answers what stands behind it. */
public final class ReadmeTest {
    private static final Pattern CALL =
            Pattern.compile("house\\.(\\w+)\\(([^)]*)\\);\\s+// (-?\\d+|\\w+Exception)\\b.*");
    private static final Checks c = new Checks("ReadmeTest");

    public static void main(String[] args) {
        Stepscript house = new Stepscript();
        int calls = 0;
        Scanner page = new Scanner(System.in, "UTF-8");
        while (page.hasNextLine()) {
            String line = page.nextLine();
            Matcher call = CALL.matcher(line);
            if (call.matches()) {
                String told = call.group(3);
                String due = Line.isThrown(told) ? "java.lang." + told : told;
                Line made = new Line(call.group(1), numbersOf(call.group(2)));
                c.alike(made, made.askedOf(house), due);
                calls++;
            } else if (line.startsWith("house.")) {
                c.alike(line, "no call with an answer behind it", "one");
            }
        }
        c.alike("calls on the page", calls > 0 ? "some" : "none", "some");
        c.close();
    }

    private static int[] numbersOf(String args) {
        if (args.isEmpty()) {
            return new int[0];
        }
        String[] told = args.split(", ");
        int[] numbers = new int[told.length];
        for (int i = 0; i < told.length; i++) {
            boolean truth = told[i].equals("true") || told[i].equals("false");
            numbers[i] = truth ? (told[i].equals("true") ? 1 : 0) : Integer.parseInt(told[i]);
        }
        return numbers;
    }
}
