import java.util.Arrays;

/** An image of a journal, put together byte by byte: heads, frames, a snap. */
final class Picture {
  private final int segments;
  private final int blocks;
  private final int bytes;
  private final int[] octets;

  /** All bytes are 0, the snap has number 0 and no value. */
  Picture(int segments, int blocks, int bytes) {
    this.segments = segments;
    this.blocks = blocks;
    this.bytes = bytes;
    octets = new int[2 + 32 + segments * blocks * bytes + 1];
    Arrays.fill(octets, 2, 34, 255);
  }

  Picture() {
    this(2, 2, 16);
  }

  Picture snap(int number) {
    octets[0] = number >> 8;
    octets[1] = number & 255;
    return this;
  }

  Picture value(int key, int value) {
    octets[2 + 2 * key] = value >> 8;
    octets[3 + 2 * key] = value & 255;
    return this;
  }

  Picture octet(int segment, int at, int... told) {
    System.arraycopy(told, 0, octets, place(segment, at), told.length);
    return this;
  }

  Picture head(int segment, int serial, int number) {
    Trial.head(octets, place(segment, 0) - 34, serial, number);
    return this;
  }

  /** A frame whose check is right; so many bytes of payload as are told. */
  Picture frame(int segment, int at, int serial, int kind, int... payload) {
    return frameOfLength(segment, at, serial, kind, payload.length, payload);
  }

  Picture frameOfLength(int segment, int at, int serial, int kind, int length, int... payload) {
    int[] frame = new int[4 + payload.length];
    frame[1] = kind;
    frame[2] = length;
    frame[3] = serial % 256;
    System.arraycopy(payload, 0, frame, 4, payload.length);
    frame[0] = Trial.check(7, frame, 1, frame.length);
    return octet(segment, at, frame);
  }

  /** A record of size 0 in one frame. */
  Picture record(int segment, int at, int serial, int key, int value) {
    return frame(segment, at, serial, 1, key, value >> 8, value & 255);
  }

  /** A journal that is as this tells. */
  Trial on(String name) {
    Trial t = Trial.told(name, "journal " + segments + " blocks " + blocks + " bytes " + bytes + ";closes all;takes 1;");
    t.tapeImage(octets);
    t.due("on()", t.of.on(), true);
    return t;
  }

  private int place(int segment, int at) {
    return 34 + segment * blocks * bytes + at;
  }
}
