import java.util.Arrays;
import java.util.NoSuchElementException;

/**
 * A workbench for captures of framed traffic: layers are described as texts, frames are decoded by
 * them, found by filters, gathered into talks, and the bytes of one side of a talk are joined.
 *
 * <p>Every row is made with the object and used again by each call, because what the calls of a run
 * make is counted together.
 */
public final class CaptureBench {
    public static final int NONE = -1;

    private static final int DRAFT_BYTES = 80;
    private static final int WRITTEN_BYTES = 8;
    private static final int LINKS = 2;
    private static final int LAYERS = 4;
    private static final int FOLLOWED_VALUES = 8;
    private static final int FRAMES = 12;
    private static final int FRAME_BYTES = 40;
    private static final int MOST_STEPS = 64;
    private static final int FILTERS = 4;
    private static final int JOINED_BYTES = 64;

    private static final int NUMBER_DIGITS = 6;
    private static final int WIDEST = 32;

    private static final int FIELD_NAMES = 8;
    private static final int BLOCK = 8;
    private static final int REPETITION = 9;
    private static final int LAYER_BEGINS = 10;

    private static final int GOOD = 0;
    private static final int TOO_SHORT = 1;
    private static final int UNEQUAL = 2;
    private static final int WRONG_SUM = 3;
    private static final int LIMIT_REACHED = 4;

    private final Text draft;
    private final LayerReader layerReader;
    private final int[] roots;
    private final Frame[] frames;
    private final Decoder decoder;
    private final Text[] filters;
    private final FilterReader filterReader;
    private final Talks builtTalks;
    private final Joined joined;
    private Layer spareLayer;
    private int frameCount;
    private int stepLimit;
    private int decodedFrame;

    public CaptureBench() {
        draft = new Text();
        spareLayer = new Layer();
        layerReader = new LayerReader();
        roots = new int[LINKS];
        Arrays.fill(roots, NONE);
        frames = new Frame[FRAMES];
        for (int k = 0; k < FRAMES; k++) {
            frames[k] = new Frame();
        }
        stepLimit = MOST_STEPS;
        decoder = new Decoder();
        decodedFrame = NONE;
        filters = new Text[FILTERS];
        for (int k = 0; k < FILTERS; k++) {
            filters[k] = new Text();
        }
        filterReader = new FilterReader();
        builtTalks = new Talks();
        joined = new Joined();
    }

    public int write(int n, long bytes) throws IllegalArgumentException {
        if (n < 1 || n > WRITTEN_BYTES) {
            throw new IllegalArgumentException();
        }
        if (draft.size + n > DRAFT_BYTES) {
            return NONE;
        }
        for (int k = 0; k < n; k++) {
            draft.chars[draft.size + k] = (int) (bytes >> (8 * k)) & 255;
        }
        draft.size += n;
        return draft.size;
    }

    public int wipe() {
        int had = draft.size;
        draft.size = 0;
        return had;
    }

    public int layer(int layer) throws IllegalArgumentException {
        if (!isLayer(layer)) {
            throw new IllegalArgumentException();
        }
        int wrongPlace = layerReader.readLayer(draft, spareLayer);
        if (wrongPlace != NONE) {
            return wrongPlace;
        }
        Layer replaced = decoder.layers[layer];
        decoder.layers[layer] = spareLayer;
        spareLayer = replaced;
        draft.size = 0;
        forgetDecoded();
        return NONE;
    }

    public void root(int link, int layer) throws IllegalArgumentException {
        if (!isLink(link) || !isLayerOrNone(layer)) {
            throw new IllegalArgumentException();
        }
        roots[link] = layer;
        forgetDecoded();
    }

    public void follow(int layer, int value, int next)
            throws IllegalArgumentException, IllegalStateException {
        if (!isLayer(layer) || value < 0 || !isLayerOrNone(next)) {
            throw new IllegalArgumentException();
        }
        if (!decoder.followers[layer].set(value, next)) {
            throw new IllegalStateException();
        }
        forgetDecoded();
    }

    public int frame(int link, int time) throws IllegalArgumentException, IllegalStateException {
        if (!isLink(link) || time < 0) {
            throw new IllegalArgumentException();
        }
        if (frameCount >= FRAMES || draft.size == 0 || draft.size > FRAME_BYTES) {
            throw new IllegalStateException();
        }
        Frame added = frames[frameCount];
        added.fill(link, time, draft);
        int number = frameCount;
        while (number > 0 && frames[number - 1].time > time) {
            frames[number] = frames[number - 1];
            number--;
        }
        frames[number] = added;
        frameCount++;
        draft.size = 0;
        forgetDecoded();
        return number;
    }

    public int drop(int frame) throws IndexOutOfBoundsException {
        if (!isFrame(frame)) {
            throw new IndexOutOfBoundsException();
        }
        Frame dropped = frames[frame];
        for (int k = frame; k < frameCount - 1; k++) {
            frames[k] = frames[k + 1];
        }
        // The object stays in the row behind the frames, for the next one that comes.
        frames[frameCount - 1] = dropped;
        frameCount--;
        forgetDecoded();
        return dropped.time;
    }

    public void limit(int n) throws IllegalArgumentException {
        if (n < 1 || n > MOST_STEPS) {
            throw new IllegalArgumentException();
        }
        stepLimit = n;
        forgetDecoded();
    }

    public int decode(int frame) throws IndexOutOfBoundsException {
        if (!isFrame(frame)) {
            throw new IndexOutOfBoundsException();
        }
        return entriesOf(frame).size;
    }

    public int entry(int frame, int k, int what)
            throws IndexOutOfBoundsException, IllegalArgumentException {
        if (!isFrame(frame) || !entriesOf(frame).has(k)) {
            throw new IndexOutOfBoundsException();
        }
        if (what < 0 || what >= Entries.FACTS) {
            throw new IllegalArgumentException();
        }
        return entriesOf(frame).fact(k, what);
    }

    public long value(int frame, int k) throws IndexOutOfBoundsException {
        if (!isFrame(frame) || !entriesOf(frame).has(k)) {
            throw new IndexOutOfBoundsException();
        }
        return entriesOf(frame).values[k];
    }

    public int filter(int filter) throws IllegalArgumentException {
        if (!isFilter(filter)) {
            throw new IllegalArgumentException();
        }
        // The text is read for its form alone, so that any entries will do.
        int wrongPlace = filterReader.readWhole(draft, decoder.entries);
        if (wrongPlace != NONE) {
            return wrongPlace;
        }
        filters[filter].copy(draft);
        draft.size = 0;
        return NONE;
    }

    public int next(int filter, int frame)
            throws IllegalArgumentException, NoSuchElementException {
        if (!isFilter(filter) || frame < 0) {
            throw new IllegalArgumentException();
        }
        if (!isFilterKnown(filter)) {
            throw new NoSuchElementException();
        }
        for (int k = frame; k < frameCount; k++) {
            if (filterReader.isTrue(filters[filter], entriesOf(k))) {
                return k;
            }
        }
        return NONE;
    }

    public long total(int filter, int layer, int name, int what)
            throws IllegalArgumentException, NoSuchElementException {
        boolean named = isFieldName(name) || name == BLOCK;
        if (!isFilter(filter) || !isLayer(layer) || !named || what < 0 || what > 3) {
            throw new IllegalArgumentException();
        }
        if (!isFilterKnown(filter)) {
            throw new NoSuchElementException();
        }
        long count = 0;
        long sum = 0;
        long least = 0;
        long greatest = 0;
        for (int k = 0; k < frameCount; k++) {
            Entries entries = entriesOf(k);
            int first = entries.first(layer, name);
            if (first != NONE && filterReader.isTrue(filters[filter], entries)) {
                long value = entries.values[first];
                least = count == 0 ? value : Math.min(least, value);
                greatest = Math.max(greatest, value);
                sum += value;
                count++;
            }
        }
        switch (what) {
            case 0:
                return count;
            case 1:
                return sum;
            case 2:
                return least;
            default:
                return greatest;
        }
    }

    public int talks(int layerA, int nameA, int layerB, int nameB) throws IllegalArgumentException {
        if (!isLayer(layerA) || !isFieldName(nameA) || !isLayer(layerB) || !isFieldName(nameB)) {
            throw new IllegalArgumentException();
        }
        builtTalks.clear();
        for (int k = 0; k < frameCount; k++) {
            Entries entries = entriesOf(k);
            int a = entries.first(layerA, nameA);
            int b = entries.first(layerB, nameB);
            if (a != NONE && b != NONE) {
                builtTalks.put(k, frames[k].size, entries.values[a], entries.values[b]);
            }
        }
        return builtTalks.size;
    }

    public long talk(int k, int what) throws IndexOutOfBoundsException, IllegalArgumentException {
        if (!builtTalks.has(k)) {
            throw new IndexOutOfBoundsException();
        }
        if (what < 0 || what >= Talks.FACTS) {
            throw new IllegalArgumentException();
        }
        return builtTalks.fact(k, what);
    }

    public int stream(int k, int layer, int name)
            throws IndexOutOfBoundsException, IllegalArgumentException {
        if (!builtTalks.has(k)) {
            throw new IndexOutOfBoundsException();
        }
        if (!isLayer(layer) || !isFieldName(name)) {
            throw new IllegalArgumentException();
        }
        joined.clear();
        for (int f = 0; f < frameCount; f++) {
            if (builtTalks.goesSameWay(k, f)) {
                Entries entries = entriesOf(f);
                int field = entries.first(layer, name);
                int block = entries.first(layer, BLOCK);
                if (field != NONE && block != NONE) {
                    joined.begin(entries.values[field], decoder.layers[layer].widths[name]);
                    joined.put(frames[f], entries.fact(block, Entries.FIRST_BIT),
                            entries.values[block]);
                }
            }
        }
        return joined.count;
    }

    public int streamed(int place) {
        return place >= 0 && place < JOINED_BYTES ? joined.bytes[place] : NONE;
    }

    private static boolean isLink(int link) {
        return link >= 0 && link < LINKS;
    }

    private static boolean isLayer(int layer) {
        return layer >= 0 && layer < LAYERS;
    }

    private static boolean isLayerOrNone(int layer) {
        return layer == NONE || isLayer(layer);
    }

    private static boolean isFieldName(int name) {
        return name >= 0 && name < FIELD_NAMES;
    }

    private static boolean isFilter(int filter) {
        return filter >= 0 && filter < FILTERS;
    }

    private boolean isFilterKnown(int filter) {
        // No filter text is empty, so an empty one tells that there is none.
        return filters[filter].size > 0;
    }

    private boolean isFrame(int frame) {
        return frame >= 0 && frame < frameCount;
    }

    /** The entries of a frame; they stay valid only until another frame's are asked for. */
    private Entries entriesOf(int frame) {
        if (decodedFrame != frame) {
            decoder.run(frames[frame], roots[frames[frame].link], stepLimit);
            decodedFrame = frame;
        }
        return decoder.entries;
    }

    /** Talks and the entries at hand hang on the same calls, so they are forgotten together. */
    private void forgetDecoded() {
        decodedFrame = NONE;
        builtTalks.clear();
    }

    /** Up to 80 characters. */
    private static final class Text {
        final int[] chars = new int[DRAFT_BYTES];
        int size;

        int charAt(int place) {
            return place >= 0 && place < size ? chars[place] : NONE;
        }

        void copy(Text other) {
            size = other.size;
            System.arraycopy(other.chars, 0, chars, 0, size);
        }
    }

    /**
     * A place in a text that moves on only over what may stand there: when a reader gives up, this
     * is the place to be answered.
     */
    private static final class Cursor {
        Text text;
        int place;
        int number;

        void start(Text read) {
            text = read;
            place = 0;
        }

        boolean isAtEnd() {
            return place >= text.size;
        }

        int seen() {
            return text.charAt(place);
        }

        boolean sees(char c) {
            return text.charAt(place) == c;
        }

        boolean take(char c) {
            if (text.charAt(place) != c) {
                return false;
            }
            place++;
            return true;
        }

        int seenName() {
            int name = text.charAt(place) - 'a';
            return isFieldName(name) ? name : NONE;
        }

        /** A seventh digit is left to whoever reads on: it is the first that cannot stand. */
        boolean takeNumber() {
            int begin = place;
            number = 0;
            while (place < text.size && place < begin + NUMBER_DIGITS) {
                int digit = text.chars[place] - '0';
                if (digit < 0 || digit > 9) {
                    break;
                }
                number = number * 10 + digit;
                place++;
            }
            return place > begin;
        }
    }

    /** The items of a layer in the order of its text, those inside a group or option behind it. */
    private static final class Layer {
        // An item has two characters at least.
        static final int ITEMS = DRAFT_BYTES / 2;

        static final int FIELD = 0;
        static final int FIXED_FIELD = 1;
        static final int SUM_FIELD = 2;
        static final int COUNTED_BLOCK = 3;
        static final int GROUP = 4;
        static final int EQUAL_OPTION = 5;
        static final int LESS_OPTION = 6;

        final int[] kinds = new int[ITEMS];
        /** The field's own name, or the one that the item asks for; NONE for *. */
        final int[] names = new int[ITEMS];
        final int[] numbers = new int[ITEMS];
        /** How many of the items behind this one are inside it. */
        final int[] inside = new int[ITEMS];
        /** By name; 0 where there is no such field. */
        final int[] widths = new int[FIELD_NAMES];
        final boolean[] swapped = new boolean[FIELD_NAMES];
        int size;
        int chooser = NONE;

        void clear() {
            size = 0;
            chooser = NONE;
            Arrays.fill(widths, 0);
        }

        boolean isDescribed() {
            return size > 0;
        }

        boolean hasField(int name) {
            return name != NONE && widths[name] > 0;
        }

        /** False, adding none, when there is no room, which no text of 80 characters needs. */
        boolean add(int kind, int name, int number) {
            if (size >= ITEMS) {
                return false;
            }
            kinds[size] = kind;
            names[size] = name;
            numbers[size] = number;
            inside[size] = 0;
            size++;
            return true;
        }
    }

    /** Reads a text as a layer; each method is false at the character that cannot stand. */
    private static final class LayerReader {
        static final int DEEPEST = 3;

        final Cursor cursor = new Cursor();
        Layer target;

        /** NONE, or the place where the text goes wrong; the target is spoilt then. */
        int readLayer(Text text, Layer read) {
            cursor.start(text);
            target = read;
            target.clear();
            boolean good = readItems(0) && readChooser() && cursor.isAtEnd();
            return good ? NONE : cursor.place;
        }

        private boolean readChooser() {
            if (!cursor.take('>')) {
                return true;
            }
            target.chooser = takeKnownName();
            return target.chooser != NONE;
        }

        private boolean readItems(int depth) {
            boolean good = true;
            for (int k = 0; k < Layer.ITEMS && good && (k == 0 || seesItem()); k++) {
                if (cursor.take('$')) {
                    good = readCount(Layer.COUNTED_BLOCK);
                } else if (cursor.sees('#') || cursor.sees('?')) {
                    good = depth < DEEPEST && readOuter(depth);
                } else {
                    good = readField();
                }
            }
            return good;
        }

        private boolean seesItem() {
            return cursor.seenName() != NONE
                    || cursor.sees('$') || cursor.sees('#') || cursor.sees('?');
        }

        private boolean readOuter(int depth) {
            int outer = target.size;
            boolean good = cursor.take('#') ? readCount(Layer.GROUP)
                    : cursor.take('?') && readCondition();
            if (!good || !cursor.take('(') || !readItems(depth + 1) || !cursor.take(')')) {
                return false;
            }
            target.inside[outer] = target.size - outer - 1;
            return true;
        }

        private boolean readCount(int kind) {
            if (cursor.take('*')) {
                return target.add(kind, NONE, 0);
            }
            int name = takeKnownName();
            return name != NONE && target.add(kind, name, 0);
        }

        private boolean readCondition() {
            int name = takeKnownName();
            if (name == NONE) {
                return false;
            }
            int kind = cursor.sees('=') ? Layer.EQUAL_OPTION : Layer.LESS_OPTION;
            return (cursor.take('=') || cursor.take('<')) && cursor.takeNumber()
                    && target.add(kind, name, cursor.number);
        }

        /** The name of a field that stands before; NONE, staying there, for anything else. */
        private int takeKnownName() {
            int name = cursor.seenName();
            if (!target.hasField(name)) {
                return NONE;
            }
            cursor.place++;
            return name;
        }

        private boolean readField() {
            int name = cursor.seenName();
            if (name == NONE || target.hasField(name)) {
                return false;
            }
            cursor.place++;
            if (!readWidth(name)) {
                return false;
            }
            if (cursor.take('!')) {
                return target.add(Layer.SUM_FIELD, name, 0);
            }
            if (cursor.take('=')) {
                return cursor.takeNumber() && target.add(Layer.FIXED_FIELD, name, cursor.number);
            }
            return target.add(Layer.FIELD, name, 0);
        }

        private boolean readWidth(int name) {
            int begin = cursor.place;
            if (!cursor.takeNumber()) {
                return false;
            }
            int width = cursor.number;
            if (width < 1 || width > WIDEST) {
                cursor.place = begin;
                return false;
            }
            target.widths[name] = width;
            boolean bytes = width == 16 || width == 24 || width == 32;
            target.swapped[name] = bytes && cursor.take('<');
            return true;
        }
    }

    /** Which layers follow one layer, by the value of the field that chooses. */
    private static final class Followers {
        final int[] values = new int[FOLLOWED_VALUES];
        final int[] layers = new int[FOLLOWED_VALUES];
        int size;

        int layerBehind(long value) {
            int k = find(value);
            return k == NONE ? NONE : layers[k];
        }

        /** False, changing nothing, when there is no room for another value. */
        boolean set(int value, int layer) {
            int k = find(value);
            if (layer == NONE) {
                remove(k);
                return true;
            }
            if (k == NONE) {
                if (size >= FOLLOWED_VALUES) {
                    return false;
                }
                k = size;
                size++;
            }
            values[k] = value;
            layers[k] = layer;
            return true;
        }

        private void remove(int k) {
            if (k != NONE) {
                size--;
                values[k] = values[size];
                layers[k] = layers[size];
            }
        }

        private int find(long value) {
            for (int k = 0; k < size; k++) {
                if (values[k] == value) {
                    return k;
                }
            }
            return NONE;
        }
    }

    private static final class Frame {
        final int[] bytes = new int[FRAME_BYTES];
        int size;
        int link;
        int time;

        void fill(int newLink, int newTime, Text text) {
            link = newLink;
            time = newTime;
            size = Math.min(text.size, FRAME_BYTES);
            System.arraycopy(text.chars, 0, bytes, 0, size);
        }

        /** The number that some bits are, the highest first; bits behind the frame are 0. */
        long bitsAt(int first, int count) {
            long number = 0;
            for (int bit = first; bit < first + count; bit++) {
                int at = bit >> 3;
                int taken = at >= 0 && at < size ? (bytes[at] >> (7 - (bit & 7))) & 1 : 0;
                number = number << 1 | taken;
            }
            return number;
        }

        /** The sum of the bytes that lie wholly between two bits. */
        long sumBetween(int from, int to) {
            long sum = 0;
            for (int k = 0; k < size; k++) {
                if (8 * k >= from && 8 * k + 8 <= to) {
                    sum += bytes[k];
                }
            }
            return sum;
        }
    }

    /** What decoding one frame entered. */
    private static final class Entries {
        // The first step is a layer that begins and enters nothing; the last entry may be no step.
        static final int MOST = MOST_STEPS;

        static final int LAYER = 0;
        static final int NAME = 1;
        static final int FIRST_BIT = 2;
        static final int BITS = 3;
        static final int MARK = 4;
        static final int FACTS = 5;

        final int[] facts = new int[MOST * FACTS];
        final long[] values = new long[MOST];
        int size;

        boolean has(int k) {
            return k >= 0 && k < size;
        }

        int fact(int k, int what) {
            return facts[k * FACTS + what];
        }

        void add(int layer, int name, int firstBit, int bits, long value, int mark) {
            if (size >= MOST) {
                return;
            }
            int at = size * FACTS;
            facts[at + LAYER] = layer;
            facts[at + NAME] = name;
            facts[at + FIRST_BIT] = firstBit;
            facts[at + BITS] = bits;
            facts[at + MARK] = mark;
            values[size] = value;
            size++;
        }

        /** Whether an entry is one of a layer's name that has a value. */
        boolean isValued(int k, int layer, int name) {
            int mark = fact(k, MARK);
            return fact(k, LAYER) == layer && fact(k, NAME) == name
                    && mark != TOO_SHORT && mark != LIMIT_REACHED;
        }

        int first(int layer, int name) {
            for (int k = 0; k < size; k++) {
                if (isValued(k, layer, name)) {
                    return k;
                }
            }
            return NONE;
        }
    }

    /** Decodes one frame at a time; its methods are false when decoding is over. */
    private static final class Decoder {
        final Entries entries = new Entries();
        final Layer[] layers = new Layer[LAYERS];
        final Followers[] followers = new Followers[LAYERS];
        final long[] latest = new long[FIELD_NAMES];
        final boolean[] entered = new boolean[FIELD_NAMES];
        Frame frame;
        Layer layer;
        int layerNumber;
        int begin;
        int place;
        int steps;
        int stepLimit;

        Decoder() {
            for (int k = 0; k < LAYERS; k++) {
                layers[k] = new Layer();
                followers[k] = new Followers();
            }
        }

        void run(Frame decoded, int root, int limit) {
            frame = decoded;
            stepLimit = limit;
            place = 0;
            steps = 0;
            entries.size = 0;
            int number = root;
            for (int k = 0; k <= MOST_STEPS && number != NONE; k++) {
                number = runLayer(number);
            }
        }

        /** Answers the layer to be run then, NONE when decoding is over. */
        private int runLayer(int number) {
            layer = layers[number];
            layerNumber = number;
            if (!layer.isDescribed() || !makeStep(LAYER_BEGINS)) {
                return NONE;
            }
            begin = place;
            for (int k = 0; k < FIELD_NAMES; k++) {
                latest[k] = 0;
                entered[k] = false;
            }
            if (!runItems(0, layer.size, 0)) {
                return NONE;
            }
            int chooser = layer.chooser;
            boolean chosen = chooser != NONE && entered[chooser];
            return chosen ? followers[number].layerBehind(latest[chooser]) : NONE;
        }

        private boolean makeStep(int name) {
            if (steps >= stepLimit) {
                entries.add(layerNumber, name, place, 0, 0, LIMIT_REACHED);
                return false;
            }
            steps++;
            return true;
        }

        private boolean runItems(int from, int to, int depth) {
            if (depth > LayerReader.DEEPEST) {
                return false;
            }
            boolean goesOn = true;
            for (int k = from; k < to && goesOn; k += 1 + layer.inside[k]) {
                switch (layer.kinds[k]) {
                    case Layer.COUNTED_BLOCK:
                        goesOn = runBlock(k);
                        break;
                    case Layer.GROUP:
                        goesOn = runGroup(k, depth);
                        break;
                    case Layer.EQUAL_OPTION:
                    case Layer.LESS_OPTION:
                        goesOn = !isChosen(k)
                                || runItems(k + 1, k + 1 + layer.inside[k], depth + 1);
                        break;
                    default:
                        goesOn = runField(k);
                        break;
                }
            }
            return goesOn;
        }

        private boolean isChosen(int k) {
            long value = latest[layer.names[k]];
            int number = layer.numbers[k];
            return layer.kinds[k] == Layer.EQUAL_OPTION ? value == number : value < number;
        }

        private boolean runGroup(int k, int depth) {
            int name = layer.names[k];
            // Each repetition is a step, so that the limit ends the loop before its own bound.
            for (int done = 0; done <= MOST_STEPS; done++) {
                boolean more = name == NONE ? bitsLeft() > 0 : done < latest[name];
                if (!more) {
                    return true;
                }
                if (!makeStep(REPETITION)
                        || !runItems(k + 1, k + 1 + layer.inside[k], depth + 1)) {
                    return false;
                }
            }
            return false;
        }

        private int bitsLeft() {
            return 8 * frame.size - place;
        }

        private boolean runBlock(int k) {
            if (!makeStep(BLOCK)) {
                return false;
            }
            int name = layer.names[k];
            int left = bitsLeft() / 8;
            long count = name == NONE ? left : latest[name];
            if (count > left) {
                entries.add(layerNumber, BLOCK, place, 0, 0, TOO_SHORT);
                return false;
            }
            int bits = 8 * (int) count;
            entries.add(layerNumber, BLOCK, place, bits, count, GOOD);
            place += bits;
            return true;
        }

        private boolean runField(int k) {
            int name = layer.names[k];
            int width = layer.widths[name];
            if (!makeStep(name)) {
                return false;
            }
            if (width > bitsLeft()) {
                entries.add(layerNumber, name, place, 0, 0, TOO_SHORT);
                return false;
            }
            long value = frame.bitsAt(place, width);
            if (layer.swapped[name]) {
                value = swapBytes(value, width);
            }
            int mark = markOf(k, value, width);
            entries.add(layerNumber, name, place, width, value, mark);
            latest[name] = value;
            entered[name] = true;
            place += width;
            return mark != UNEQUAL;
        }

        private int markOf(int k, long value, int width) {
            switch (layer.kinds[k]) {
                case Layer.FIXED_FIELD:
                    return value == layer.numbers[k] ? GOOD : UNEQUAL;
                case Layer.SUM_FIELD:
                    return value == (frame.sumBetween(begin, place) & ((1L << width) - 1))
                            ? GOOD : WRONG_SUM;
                default:
                    return GOOD;
            }
        }

        private static long swapBytes(long number, int width) {
            long swapped = 0;
            for (int bit = 0; bit < width; bit += 8) {
                swapped = swapped << 8 | (number >> bit & 255);
            }
            return swapped;
        }
    }

    /**
     * Reads a text as a filter and finds, while it reads, whether that is true for some entries, so
     * that the grammar stands in one place; each method is false at the character that cannot
     * stand.
     */
    private static final class FilterReader {
        static final int DEEPEST = 8;
        static final int MOST_NUMBERS = 4;

        final Cursor cursor = new Cursor();
        final int[] numbers = new int[MOST_NUMBERS];
        int numberCount;
        int comparison;
        Entries entries;
        /** Of what was read last. */
        boolean truth;

        /** NONE, or the place where the text goes wrong. */
        int readWhole(Text text, Entries asked) {
            start(text, asked);
            return readFilter(0) && cursor.isAtEnd() ? NONE : cursor.place;
        }

        /** For a text that was read whole before. */
        boolean isTrue(Text text, Entries asked) {
            start(text, asked);
            return readFilter(0) && truth;
        }

        private void start(Text text, Entries asked) {
            cursor.start(text);
            entries = asked;
        }

        private boolean readFilter(int depth) {
            if (!readTerm(depth)) {
                return false;
            }
            boolean any = truth;
            for (int k = 0; k < DRAFT_BYTES && cursor.take('|'); k++) {
                if (!readTerm(depth)) {
                    return false;
                }
                any = any || truth;
            }
            truth = any;
            return true;
        }

        private boolean readTerm(int depth) {
            if (!readFactor(depth)) {
                return false;
            }
            boolean all = truth;
            for (int k = 0; k < DRAFT_BYTES && cursor.take('&'); k++) {
                if (!readFactor(depth)) {
                    return false;
                }
                all = all && truth;
            }
            truth = all;
            return true;
        }

        private boolean readFactor(int depth) {
            if (depth < DEEPEST && cursor.take('!')) {
                boolean good = readFactor(depth + 1);
                truth = !truth;
                return good;
            }
            if (depth < DEEPEST && cursor.take('(')) {
                return readFilter(depth + 1) && cursor.take(')');
            }
            return readTest();
        }

        private boolean readTest() {
            int layer = cursor.seen() - '0';
            if (!isLayer(layer)) {
                return false;
            }
            cursor.place++;
            int name = cursor.sees('$') ? BLOCK : cursor.seenName();
            if (name == NONE) {
                return false;
            }
            cursor.place++;
            if (!readComparison()) {
                return false;
            }
            truth = false;
            for (int k = 0; k < entries.size && !truth; k++) {
                truth = entries.isValued(k, layer, name) && fits(entries.values[k]);
            }
            return true;
        }

        private boolean readComparison() {
            comparison = cursor.seen();
            numberCount = 0;
            if (comparison != '=' && comparison != '<' && comparison != '>' && comparison != '~') {
                return true;
            }
            cursor.place++;
            int most = comparison == '=' ? MOST_NUMBERS : 1;
            for (int k = 0; k < most && (k == 0 || cursor.take(',')); k++) {
                if (!cursor.takeNumber()) {
                    return false;
                }
                numbers[k] = cursor.number;
                numberCount++;
            }
            return true;
        }

        private boolean fits(long value) {
            boolean fits = numberCount == 0;
            for (int k = 0; k < numberCount && !fits; k++) {
                fits = fitsNumber(value, numbers[k]);
            }
            return fits;
        }

        private boolean fitsNumber(long value, int number) {
            switch (comparison) {
                case '=':
                    return value == number;
                case '<':
                    return value < number;
                case '>':
                    return value > number;
                default:
                    return (value & number) != 0;
            }
        }
    }

    /** Who talked with whom, as it was built last. */
    private static final class Talks {
        static final int X = 0;
        static final int Y = 1;
        static final int SAME_WAY_FRAMES = 2;
        static final int SAME_WAY_BYTES = 4;
        static final int FACTS = 6;

        final long[] facts = new long[FRAMES * FACTS];
        /** By frame: the talk that it goes the same way as, NONE for none. */
        final int[] sameWayAs = new int[FRAMES];
        int size;

        void clear() {
            size = 0;
            Arrays.fill(sameWayAs, NONE);
        }

        boolean has(int k) {
            return k >= 0 && k < size;
        }

        long fact(int k, int what) {
            return facts[k * FACTS + what];
        }

        boolean goesSameWay(int k, int frame) {
            return sameWayAs[frame] == k;
        }

        void put(int frame, int bytes, long x, long y) {
            int k = find(x, y);
            if (k == size) {
                begin(x, y);
            }
            boolean same = fact(k, X) == x && fact(k, Y) == y;
            if (same) {
                sameWayAs[frame] = k;
            }
            // In both pairs of facts the other way stands behind the same way.
            int way = k * FACTS + (same ? 0 : 1);
            facts[way + SAME_WAY_FRAMES]++;
            facts[way + SAME_WAY_BYTES] += bytes;
        }

        private int find(long x, long y) {
            for (int k = 0; k < size; k++) {
                long talkX = fact(k, X);
                long talkY = fact(k, Y);
                if (talkX == x && talkY == y || talkX == y && talkY == x) {
                    return k;
                }
            }
            return size;
        }

        private void begin(long x, long y) {
            int at = size * FACTS;
            for (int k = 0; k < FACTS; k++) {
                facts[at + k] = 0;
            }
            facts[at + X] = x;
            facts[at + Y] = y;
            size++;
        }
    }

    /** The bytes of one side of a talk, as they were joined last. */
    private static final class Joined {
        final int[] bytes = new int[JOINED_BYTES];
        int count;
        boolean begun;
        long base;
        long distance;

        Joined() {
            Arrays.fill(bytes, NONE);
        }

        void clear() {
            count = 0;
            begun = false;
            Arrays.fill(bytes, NONE);
        }

        /** Tells where the next block's first byte is put. */
        void begin(long number, int width) {
            if (!begun) {
                begun = true;
                base = number;
            }
            distance = (number - base) & ((1L << width) - 1);
        }

        void put(Frame frame, int firstBit, long blockBytes) {
            for (int k = 0; k < blockBytes && distance + k < JOINED_BYTES; k++) {
                int at = (int) distance + k;
                if (bytes[at] == NONE) {
                    bytes[at] = (int) frame.bitsAt(firstBit + 8 * k, 8);
                    count++;
                }
            }
        }
    }
}
