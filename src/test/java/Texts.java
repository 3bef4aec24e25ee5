import java.nio.charset.StandardCharsets;

/** Puts texts on the tape of a chart, and makes texts by draws. */
final class Texts {
    static final String NAMES = "ann ben cyd dot eve fay";

    private Texts() {
    }

    private static byte[] filled(String text) {
        byte[] bytes = text.getBytes(StandardCharsets.ISO_8859_1);
        byte[] all = new byte[(bytes.length + 19) / 20 * 20];
        java.util.Arrays.fill(all, (byte) ' ');
        System.arraycopy(bytes, 0, all, 0, bytes.length);
        return all;
    }

    /** The five ints of each feed() that brings a text. */
    static int[][] feeds(String text) {
        byte[] all = filled(text);
        int[][] feeds = new int[all.length / 20][5];
        for (int i = 0; i < all.length; i++) {
            int word = i % 20 / 4;
            feeds[i / 20][word] = feeds[i / 20][word] << 8 | all[i] & 255;
        }
        return feeds;
    }

    static int feed(FreckleChart chart, String text) {
        int taped = 0;
        for (int[] f : feeds(text)) {
            taped = chart.feed(f[0], f[1], f[2], f[3], f[4]);
        }
        return taped;
    }

    static int coast(FreckleChart chart, String text) {
        feed(chart, text);
        return chart.coast(text.length());
    }

    static int years(FreckleChart chart, String text) {
        feed(chart, text);
        return chart.years(text.length());
    }

    /** A chart with a coast; stops the test if the coast isn't taken. */
    static FreckleChart chart(String text) {
        FreckleChart chart = new FreckleChart();
        coast(chart, text);
        if (chart.status() != 0) {
            throw new IllegalStateException("not taken: " + text + ": fault " + chart.fault(0)
                    + " at " + chart.fault(1));
        }
        return chart;
    }

    static FreckleChart chart(String text, String years) {
        FreckleChart chart = chart(text);
        years(chart, years);
        if (chart.status() != 0) {
            throw new IllegalStateException("not taken: " + years + ": fault " + chart.fault(0)
                    + " at " + chart.fault(1));
        }
        return chart;
    }

    // ---- by draws

    static String drawnCoast(Draws d) {
        StringBuilder text = new StringBuilder();
        int wide = 5;
        int high = 4;
        if (!d.oneIn(6)) {
            wide = d.from(1, 6);
            high = d.from(1, 5);
            text.append("coast ").append(wide).append(" by ").append(high).append("; ");
        }
        if (d.oneIn(2)) {
            text.append("odds ").append(d.from(0, 16)).append(";\n");
        }
        int cells = wide * high;
        boolean[] rocky = new boolean[cells];
        int rocks = d.oneIn(8) ? 17 : d.below(8);
        for (int i = 0; i < rocks; i++) {
            int cell = d.below(cells);
            if (!rocky[cell] || d.oneIn(40)) {
                rocky[cell] = true;
                text.append("rock ").append(cell).append(" deep ").append(d.below(10)).append("; ");
            }
        }
        int cousins = d.oneIn(10) ? 7 : d.below(7);
        for (int i = 0; i < cousins; i++) {
            String name = i < 6 ? NAMES.split(" ")[i] : "gil";
            text.append(drawnCousin(d, name, wide, high));
        }
        return text.toString();
    }

    private static String drawnCousin(Draws d, String name, int wide, int high) {
        int cell = d.oneIn(2) ? d.below(wide * high) : 0;
        int w = d.from(1, wide - cell % wide);
        int h = d.from(1, high - cell / wide);
        StringBuilder text = new StringBuilder();
        text.append("cousin ").append(name).append(" at ").append(cell).append(" wide ").append(w)
                .append(" high ").append(h);
        if (!d.oneIn(3)) {
            text.append(" tan ").append(d.below(10));
        }
        if (d.oneIn(4)) {
            text.append(" veiled");
        }
        if (d.oneIn(3)) {
            text.append(" inked");
            boolean[] is = new boolean[wide * high];
            for (int i = d.below(d.oneIn(5) ? 12 : 4); i > 0; i--) {
                int inked = cell + d.below(w) + wide * d.below(h);
                if (!is[inked] || d.oneIn(30)) {
                    is[inked] = true;
                    text.append(' ').append(inked);
                }
            }
        }
        return text.append("; ").toString();
    }

    static String drawnYears(Draws d, int cells, int cousins) {
        StringBuilder text = new StringBuilder();
        int steps = d.oneIn(6) ? 34 : d.below(14);
        int open = 0;
        for (int i = 0; i < steps; i++) {
            String step = drawnStep(d, cells, Math.max(1, cousins));
            if (open > 0 && d.oneIn(4)) {
                text.append("end;");
                open--;
            }
            if (step.startsWith("when") || step.startsWith("loop")) {
                if (open == 3 && !d.oneIn(20)) {
                    continue;
                }
                open++;
            }
            text.append(step).append(';');
        }
        for (int i = 0; i < open; i++) {
            text.append("end;");
        }
        return text.toString();
    }

    private static String drawnStep(Draws d, int cells, int cousins) {
        String name = NAMES.split(" ")[d.below(cousins)];
        switch (d.below(16)) {
            case 0:
                return "sun " + name + " " + d.from(1, 9);
            case 1:
                return "rain " + d.from(1, 9);
            case 2:
                return "veil " + name;
            case 3:
                return "bare " + name;
            case 4:
                return "ink " + name + " " + d.below(cells);
            case 5:
                return d.oneIn(3) ? "wash " + name : "any";
            case 6:
            case 7:
                return "sail " + name + " " + d.below(cells) + " " + d.below(cells) + " "
                        + d.from(1, 10);
            case 8:
                return d.oneIn(9) ? "stop" : "any";
            case 9:
            case 10:
                return "loop " + (d.oneIn(3) ? d.from(1, 99) : d.from(1, 4));
            case 11:
                return "when shows " + name + " " + d.below(cells);
            case 12:
                return "when tan " + name + " " + d.oneOf("< > =") + " " + d.below(10);
            case 13:
                return "when veiled " + name;
            default:
                return "any";
        }
    }

    /** The text with a few tokens, bytes changed: mostly faulty. */
    static String spoilt(Draws d, String text) {
        StringBuilder s = new StringBuilder(text);
        for (int i = d.from(1, 3); i > 0; i--) {
            int at = d.below(s.length() + 1);
            switch (d.below(5)) {
                case 0:
                    s.insert(at, d.oneOf("; < > = 0 1 9 10 17 30 9999 10000 coast odds rock cousin"
                            + " tan inked veiled end loop when any sun stop ann abcdefgh abcdefghi"));
                    break;
                case 1:
                    s.insert(at, (char) d.below(256));
                    break;
                case 2:
                    s.delete(at, Math.min(s.length(), at + d.from(1, 4)));
                    break;
                case 3:
                    s.setLength(at);
                    break;
                default:
                    int end = Math.min(s.length(), at + d.from(1, 40));
                    s.insert(d.below(s.length() + 1), s.substring(at, end));
            }
        }
        return s.toString();
    }
}
