import java.util.ArrayList;
import java.util.Arrays;
import java.util.Comparator;
import java.util.HashMap;
import java.util.List;
import java.util.Map;

/** The document once more, with the Java library and texts, to be compared with the class call by call. */
final class Model {
    static final class Item {
        int kind;
        Item dir;
        Item file;
        String name = "";
        String body = "";
        int mode;
        int owner;
        int time;
    }

    private static final String MARK = "ustar\u000000";

    private List<Item> items = new ArrayList<>(List.of(new Item()));
    private byte[] hand = new byte[0];
    private int place = -1;

    private static final class Fault extends RuntimeException {
        private static final long serialVersionUID = 1L;
        final int number;
        final int block;

        Fault(int number, int block) {
            this.number = number;
            this.block = block;
        }
    }

    private static void need(boolean holds) {
        if (!holds) {
            throw new IllegalArgumentException();
        }
    }

    private static void needState(boolean holds) {
        if (!holds) {
            throw new IllegalStateException();
        }
    }

    private Item item(int node) {
        need(node >= 0 && node < items.size());
        return items.get(node);
    }

    private static String letters(long w, int n) {
        StringBuilder text = new StringBuilder();
        for (int i = 0; i < n; i++) {
            text.append((char) (w & 255));
            w >>>= 8;
        }
        return text.toString();
    }

    private static boolean isName(String name) {
        return name.matches("[!-.0-~]+") && !name.equals(".") && !name.equals("..");
    }

    private static boolean isThere(List<Item> items, Item dir, String name) {
        return items.stream().anyMatch(x -> x.dir == dir && x.dir != null && x.name.equals(name));
    }

    int make(int in, int kind, long w, int n, int of) {
        need(kind >= 0 && kind <= 3 && item(in).kind == 0 && n >= 1 && n <= 8);
        String name = letters(w, n);
        need(isName(name) && !isThere(items, item(in), name));
        need(kind != 3 || item(of).kind == 1);
        needState(items.size() < 30);
        Item made = new Item();
        made.kind = kind;
        made.dir = item(in);
        made.file = kind == 3 ? item(of) : null;
        made.name = name;
        items.add(made);
        return items.size() - 1;
    }

    int rename(int node, long w, int n) {
        need(item(node).dir != null && n >= 1 && n <= 8);
        String name = item(node).name + letters(w, n);
        need(isName(name) && !isThere(items, item(node).dir, name));
        needState(name.length() <= 100);
        item(node).name = name;
        return name.length();
    }

    int fill(int node, long w, int n) {
        Item item = item(node);
        need((item.kind == 1 || item.kind == 2) && n >= 0 && n <= 8);
        String more = letters(w, n);
        need(item.kind == 1 || more.matches("[!-~]*"));
        needState(item.body.length() + n <= (item.kind == 1 ? 2000 : 100));
        item.body += more;
        return item.body.length();
    }

    void contents(int node, int length, int seed) {
        need(item(node).kind == 1 && length >= 0 && length <= 2000 && seed >= 0 && seed <= 255);
        StringBuilder body = new StringBuilder();
        for (int i = 0; i < length; i++) {
            body.append((char) ((seed + 31 * i) % 256));
        }
        item(node).body = body.toString();
    }

    void set(int node, int mode, int owner, int time) {
        Item item = item(node);
        need(mode >= 0 && mode <= 4095 && owner >= 0 && owner <= 2097151 && time >= 0);
        item.mode = mode;
        item.owner = owner;
        item.time = time;
    }

    int remove(int node) {
        Item gone = item(node);
        need(gone.dir != null);
        int before = items.size();
        items.removeIf(x -> isIn(x, gone));
        items.removeIf(x -> x.file != null && !items.contains(x.file));
        return before - items.size();
    }

    private static boolean isIn(Item item, Item dir) {
        return item != null && (item == dir || isIn(item.dir, dir));
    }

    private static String plainPath(Item item) {
        return item.dir == null || item.dir.dir == null ? item.name : plainPath(item.dir) + "/" + item.name;
    }

    private static String path(Item item) {
        return plainPath(item) + (item.kind == 0 ? "/" : "");
    }

    private void walk(Item dir, List<Item> plain, List<Item> links) {
        List<Item> inside = new ArrayList<>(items.stream().filter(x -> x.dir == dir).toList());
        inside.sort(Comparator.comparing(x -> x.name));
        for (Item item : inside) {
            (item.kind == 3 ? links : plain).add(item);
            walk(item, plain, links);
        }
    }

    int write() {
        List<Item> order = new ArrayList<>();
        List<Item> links = new ArrayList<>();
        walk(items.get(0), order, links);
        order.addAll(links);
        StringBuilder bytes = new StringBuilder();
        for (Item item : order) {
            bytes.append(header(item));
            if (item.kind == 1) {
                bytes.append(padded(item.body, (item.body.length() + 511) / 512 * 512));
            }
        }
        bytes.append(padded("", 1024));
        if (bytes.length() > 10240) {
            throw new UnsupportedOperationException();
        }
        hand = bytes.toString().getBytes(java.nio.charset.StandardCharsets.ISO_8859_1);
        return hand.length / 512;
    }

    private static String padded(String text, int length) {
        return text + "\0".repeat(length - text.length());
    }

    private static String header(Item item) {
        String path = path(item);
        String first = "";
        if (path.length() > 100) {
            int cut = -1;
            for (int i = path.length() - 2; i >= 0 && path.length() - 1 - i <= 100; i--) {
                cut = path.charAt(i) == '/' ? i : cut;
            }
            if (cut < 0 || cut > 155) {
                throw new UnsupportedOperationException();
            }
            first = path.substring(0, cut);
            path = path.substring(cut + 1);
        }
        String target = item.kind == 2 ? item.body : item.kind == 3 ? path(item.file) : "";
        if (target.length() > 100) {
            throw new UnsupportedOperationException();
        }
        int length = item.kind == 1 ? item.body.length() : 0;
        String before = padded(path, 100) + String.format("%07o\0%07o\0%07o\0%011o\0%011o\0", item.mode, item.owner, 0, length, item.time);
        String behind = "5021".charAt(item.kind) + padded(target, 100) + MARK + padded("", 64) + "0000000\0" + "0000000\0" + padded(first, 155) + padded("", 12);
        int sum = (before + "        " + behind).chars().sum();
        return before + String.format("%06o\0 ", sum) + behind;
    }

    int read() {
        try {
            items = parse();
            place = -1;
            return items.size();
        } catch (Fault fault) {
            place = fault.block;
            return -fault.number;
        }
    }

    private List<Item> parse() {
        String bytes = new String(hand, java.nio.charset.StandardCharsets.ISO_8859_1);
        String zeros = padded("", 512);
        List<Item> found = new ArrayList<>(List.of(new Item()));
        Map<String, Item> byPath = new HashMap<>();
        byPath.put("", found.get(0));
        int at = 0;
        while (true) {
            int block = at / 512;
            if (at + 512 > bytes.length()) {
                throw new Fault(1, block);
            }
            String header = bytes.substring(at, at + 512);
            if (header.equals(zeros)) {
                if (bytes.startsWith(zeros, at + 512)) {
                    return found;
                }
                throw new Fault(2, block);
            }
            Item item = new Item();
            int length = entry(header, item, byPath, block);
            if (found.size() == 30 || length > 2000) {
                throw new Fault(9, block);
            }
            int end = at + 512 + (length + 511) / 512 * 512;
            if (end > bytes.length()) {
                throw new Fault(10, block);
            }
            if (!bytes.substring(at + 512 + length, end).matches("\0*")) {
                throw new Fault(11, block);
            }
            if (item.kind == 1) {
                item.body = bytes.substring(at + 512, at + 512 + length);
            }
            found.add(item);
            byPath.put(plainPath(item), item);
            at = end;
        }
    }

    private static int entry(String header, Item item, Map<String, Item> byPath, int block) {
        int sum = (header.substring(0, 148) + "        " + header.substring(156)).chars().sum();
        if (!header.substring(148, 156).equals(String.format("%06o\0 ", sum))) {
            throw new Fault(3, block);
        }
        if (!header.substring(257, 329).equals(padded(MARK, 72)) || !header.substring(500).equals(padded("", 12))) {
            throw new Fault(4, block);
        }
        long mode = octal(header, 100, 107, block);
        item.owner = (int) octal(header, 108, 115, block);
        octal(header, 116, 123, block);
        long length = octal(header, 124, 135, block);
        long time = octal(header, 136, 147, block);
        octal(header, 329, 336, block);
        octal(header, 337, 344, block);
        if (mode > 4095 || time > Integer.MAX_VALUE) {
            throw new Fault(5, block);
        }
        item.mode = (int) mode;
        item.time = (int) time;
        item.kind = "5021".indexOf(header.charAt(156));
        if (item.kind < 0 || item.kind != 1 && length != 0) {
            throw new Fault(6, block);
        }
        String second = text(header, 0, 100, 7, block);
        String first = text(header, 345, 500, 7, block);
        hang(item, first.isEmpty() ? second : first + "/" + second, byPath, block);
        String target = text(header, 157, 257, 8, block);
        if (item.kind == 3) {
            item.file = byPath.get(target);
        }
        if (item.kind == 2) {
            item.body = target;
        }
        boolean fits = item.kind == 2 ? target.matches("[!-~]*") : item.kind == 3 ? item.file != null && item.file.kind == 1 : target.isEmpty();
        if (!fits) {
            throw new Fault(8, block);
        }
        return (int) Math.min(length, 1 << 20);
    }

    private static void hang(Item item, String path, Map<String, Item> byPath, int block) {
        if (path.endsWith("/") != (item.kind == 0)) {
            throw new Fault(7, block);
        }
        String plain = item.kind == 0 ? path.substring(0, path.length() - 1) : path;
        for (String name : plain.split("/", -1)) {
            if (!isName(name) || name.length() > 100) {
                throw new Fault(7, block);
            }
        }
        int slash = plain.lastIndexOf('/');
        item.dir = byPath.get(plain.substring(0, Math.max(0, slash)));
        item.name = plain.substring(slash + 1);
        if (item.dir == null || item.dir.kind != 0 || byPath.containsKey(plain)) {
            throw new Fault(7, block);
        }
    }

    private static long octal(String header, int from, int end, int block) {
        if (!header.substring(from, end + 1).matches("[0-7]+\0")) {
            throw new Fault(5, block);
        }
        return Long.parseLong(header.substring(from, end), 8);
    }

    private static String text(String header, int from, int end, int fault, int block) {
        String field = header.substring(from, end);
        int zero = field.indexOf('\0');
        if (zero < 0) {
            return field;
        }
        if (!field.substring(zero).matches("\0+")) {
            throw new Fault(fault, block);
        }
        return field.substring(0, zero);
    }

    int place() {
        return place;
    }

    int alter(int i, int b) {
        need(i >= 0 && i < hand.length && b >= 0 && b <= 255);
        int was = hand[i] & 255;
        hand[i] = (byte) b;
        return was;
    }

    int check(int b) {
        need(b >= 0 && b < hand.length / 512);
        int sum = 8 * 32;
        for (int i = 0; i < 512; i++) {
            sum += i / 4 == 37 || i / 4 == 38 ? 0 : hand[b * 512 + i] & 255;
        }
        byte[] digits = String.format("%06o\0 ", sum).getBytes(java.nio.charset.StandardCharsets.ISO_8859_1);
        System.arraycopy(digits, 0, hand, b * 512 + 148, 8);
        return sum;
    }

    void size(int n) {
        need(n >= 0 && n <= 10240);
        hand = Arrays.copyOf(hand, n);
    }

    int hand(int i) {
        return i >= 0 && i < hand.length ? hand[i] & 255 : -1;
    }

    int node(int node, int what) {
        Item item = item(node);
        return switch (what) {
            case 0 -> item.kind;
            case 1 -> items.indexOf(item.dir);
            case 2 -> item.name.length();
            case 3 -> item.mode;
            case 4 -> item.owner;
            case 5 -> item.time;
            case 6 -> item.body.length();
            case 7 -> items.indexOf(item.file);
            default -> throw new IllegalArgumentException();
        };
    }

    int part(int node, int what, int i) {
        Item item = item(node);
        need(what == 0 || what == 1);
        String text = what == 0 ? item.name : item.body;
        return i >= 0 && i < text.length() ? text.charAt(i) : -1;
    }

    int total(int what) {
        return switch (what) {
            case 0 -> items.size();
            case 1 -> hand.length;
            case 2 -> items.stream().skip(1).mapToInt(x -> path(x).length()).max().orElse(0);
            default -> throw new IllegalArgumentException();
        };
    }
}
