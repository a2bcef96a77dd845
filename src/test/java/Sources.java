/** Sources of documents, and records changed in the log. */
final class Sources {
    static final int INDEX = 1;
    static final int DELETE = 2;
    static final int NOTHING = 3;

    private Sources() {
    }

    static long source(int number, int... words) {
        long source = number & 0xFFFFFFFFL;
        for (int i = 0; i < words.length; i++) {
            source |= (long) words[i] << (32 + 4 * i);
        }
        return source;
    }

    /** A shard whose only generation has so many bytes (70 or more), of records with SEQ 0, 1, .. in this order. */
    static ShardEngine filled(int bytes) {
        ShardEngine x = new ShardEngine();
        int deletes = 0;
        while ((bytes - 11 * deletes) % 8 != 0) {
            deletes++;
        }
        int count = deletes + (bytes - 11 * deletes) / 8;
        for (int seq = 0; seq < count; seq++) {
            x.replica(seq < deletes ? DELETE : NOTHING, 15, seq, 1, 0L);
        }
        Check.due("bytes", x.info(5), bytes);
        return x;
    }

    static int byteAt(ShardEngine x, int generation, int at) {
        return x.flip(generation, at, 0);
    }

    static void put(ShardEngine x, int generation, int at, int value) {
        x.flip(generation, at, byteAt(x, generation, at) ^ value);
    }

    /** Makes the checksum of the record at this place right again. */
    static void seal(ShardEngine x, int generation, int at) {
        int count = byteAt(x, generation, at) + 1;
        java.util.zip.CRC32 crc = new java.util.zip.CRC32();
        for (int i = 0; i < count; i++) {
            crc.update(byteAt(x, generation, at + i));
        }
        for (int i = 0; i < 4; i++) {
            put(x, generation, at + count + i, (int) (crc.getValue() >>> (8 * i)) & 255);
        }
    }

    /** Changes one byte of the record at this place, so that the record stays sound. */
    static void forge(ShardEngine x, int generation, int at, int offset, int value) {
        put(x, generation, at + offset, value);
        seal(x, generation, at);
    }

    static ShardEngine recovered(ShardEngine x) {
        x.crash(0);
        Check.holds("recover(-1) succeeds", x.recover(-1) >= 0);
        return x;
    }
}
