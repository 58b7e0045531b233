import java.util.ArrayList;
import java.util.HashSet;
import java.util.List;
import java.util.Random;
import java.util.Set;

/** Texts by chance: most of them right, some with a fault somewhere, some too long. */
final class RandomTexts {
    private static final String[] NAMES = {"a", "b", "c", "dd", "ee", "fig", "own", "lookers", "abcdefg", "hh", "i", "jk", "lm", "no", "pq", "rs", "zzzzzzz"};
    private static final String[] STRANGE = {"abcdefgh", "24", "25", "60", "61", "0", "10", "6", "1000", "0", "00", "007", "x1", "1x", "field", "hour", "east", "and", "(", ")", "<", "=", ">", ";", "!", "A",
        "\t", "\u00e9", "seen", "not", "owner", "999", "9", "10", "q", "{", "`", "/", ":", "\0"};

    private final Random random;

    RandomTexts(Random random) {
        this.random = random;
    }

    int below(int n) {
        return random.nextInt(n);
    }

    private boolean chance(int percent) {
        return below(100) < percent;
    }

    private String pick(List<String> list) {
        return list.isEmpty() || chance(1) ? NAMES[below(NAMES.length)] : list.get(below(list.size()));
    }

    private String side() {
        return Model.SIDES.get(below(4));
    }

    private String fresh(Set<String> used) {
        for (int i = 0; i < 30; i++) {
            String n = NAMES[below(NAMES.length)];
            if (used.add(n)) {
                return n;
            }
        }
        return "a";
    }

    private String freeCell(Set<String> taken, int wide, int high) {
        for (int i = 0; i < 20; i++) {
            String c = below(wide) + " " + below(high);
            if (taken.add(c) || chance(1)) {
                return c;
            }
        }
        return "0 0";
    }

    String field() {
        List<String> lines = new ArrayList<>();
        Set<String> used = new HashSet<>();
        Set<String> taken = new HashSet<>();
        List<String> owners = new ArrayList<>();
        boolean sized = chance(80);
        int wide = sized ? 2 + below(chance(50) ? 3 : 8) : 6;
        int high = sized ? 2 + below(chance(50) ? 3 : 8) : 6;
        for (int i = below(chance(4) ? 6 : 5); i >= 0; i--) {
            owners.add(fresh(used));
            lines.add("owner " + owners.get(owners.size() - 1) + " ;");
        }
        if (sized) {
            lines.add(below(lines.size() + 1), "field " + wide + " " + high + " ;");
        }
        int fixed = lines.size();
        for (int i = below(1 + wide * high / 5); i > 0; i--) {
            lines.add("hedge " + freeCell(taken, wide, high) + " ;");
        }
        Set<Integer> rows = new HashSet<>();
        for (int i = below(4); i > 0; i--) {
            int y = below(high);
            if (rows.add(y) || chance(2)) {
                lines.add("land " + pick(owners) + " " + y + " ;");
            }
        }
        for (int i = (chance(60) ? 2 : 0) + below(chance(4) ? 8 : 5); i > 0; i--) {
            int every = chance(50) ? 1 : 1 + below(9);
            lines.add("figure " + fresh(used) + " " + pick(owners) + " " + freeCell(taken, wide, high) + " " + side() + " " + every + " ;");
        }
        for (int i = (chance(60) ? 2 : 0) + below(chance(4) ? 7 : 4); i > 0; i--) {
            String hours = chance(50) ? "" : " " + below(24) + " " + (1 + below(24));
            lines.add("looker " + fresh(used) + " " + freeCell(taken, wide, high) + " " + side() + hours + " ;");
        }
        List<String> behind = lines.subList(fixed, lines.size());
        java.util.Collections.shuffle(behind, random);
        return finish(String.join(" ", lines), 900);
    }

    String book(List<String> lookers, List<String> figures) {
        StringBuilder b = new StringBuilder();
        for (int i = below(chance(10) ? 50 : 8); i > 0; i--) {
            int what = below(10);
            if (what < 2) {
                b.append("hour ").append(1 + below(chance(80) ? 5 : 60)).append(" ; ");
            } else if (what < 4) {
                b.append(pick(figures)).append(" faces ").append(side()).append(" ; ");
            } else {
                String[] deeds = {"turns " + side(), "walks " + side(), "turns " + side(), "walks " + side(), "shuts", "opens"};
                b.append(pick(lookers)).append(" ").append(deeds[below(6)]).append(" ; ");
            }
        }
        return finish(b.toString(), 400);
    }

    String sentence(List<String> owners, List<String> lookers) {
        return finish(cond(owners, lookers, 1 + below(9)), 200);
    }

    private String cond(List<String> owners, List<String> lookers, int depth) {
        StringBuilder b = new StringBuilder(one(owners, lookers, depth));
        for (int i = below(3); i > 0; i--) {
            b.append(chance(50) ? " and " : " or ").append(one(owners, lookers, depth));
        }
        return b.toString();
    }

    private String one(List<String> owners, List<String> lookers, int depth) {
        if (depth > 1 && chance(60)) {
            return chance(60) ? "not " + one(owners, lookers, depth - 1) : "( " + cond(owners, lookers, depth - 1) + " )";
        }
        String sign = new String[] {"<", "=", ">"}[below(3)];
        switch (below(8)) {
            case 0: return "seen";
            case 1: return "stuck";
            case 2: return "moved";
            case 3: return "of " + pick(owners);
            case 4: return "by " + pick(lookers);
            case 5: return "gone " + sign + " " + below(5);
            case 6: return "every " + sign + " " + below(6);
            default: return "number " + sign + " " + below(6);
        }
    }

    /** Some blanks less or more, a fault at times, and too many bytes at times. */
    private String finish(String text, int most) {
        List<String> tokens = new ArrayList<>(List.of(text.trim().split(" +")));
        if (tokens.get(0).isEmpty()) {
            tokens.clear();
        }
        if (chance(20)) {
            spoil(tokens);
        }
        boolean tight = chance(60);
        StringBuilder b = new StringBuilder();
        for (String t : tokens) {
            boolean need = b.length() > 0 && Character.isLetterOrDigit(b.charAt(b.length() - 1)) && Character.isLetterOrDigit(t.charAt(0));
            if (need || !tight && chance(70)) {
                b.append(chance(90) ? " " : "\n");
            }
            b.append(t);
        }
        if (chance(5)) {
            lengthen(b, most);
        }
        return b.length() > 940 ? b.substring(0, 940) : b.toString();
    }

    /** To about as many bytes as are told, a few more or less, by blanks at some place. */
    private void lengthen(StringBuilder b, int most) {
        int where = 0;
        for (int i = 0; i < 20 && (where == 0 || b.charAt(where - 1) != ' ' && b.charAt(where - 1) != ';'); i++) {
            where = below(b.length() + 1);
        }
        int wanted = most + below(9) - 4;
        if (chance(50)) {
            where = b.length();
        }
        while (b.length() < wanted) {
            b.insert(where, ' ');
        }
    }

    private void spoil(List<String> tokens) {
        int i = tokens.isEmpty() ? 0 : below(tokens.size());
        String strange = STRANGE[below(STRANGE.length)];
        switch (tokens.isEmpty() ? 3 : below(6)) {
            case 0: tokens.remove(i); break;
            case 1: tokens.set(i, strange); break;
            case 2: tokens.set(i, tokens.get(below(tokens.size()))); break;
            case 3: tokens.add(i, strange); break;
            case 4: tokens.subList(i, tokens.size()).clear(); break;
            default: tokens.set(i, NAMES[below(NAMES.length)]); break;
        }
    }
}
