import java.util.ArrayList;
import java.util.Arrays;
import java.util.Collections;
import java.util.List;
import java.util.Random;

/** Images as they come: those of a world, or such as are put together, with some bytes changed. */
final class RandomImages {
  private final Random random;

  RandomImages(Random random) {
    this.random = random;
  }

  private boolean oneOf(int of) {
    return random.nextInt(of) == 0;
  }

  private int pick(int... of) {
    return of[random.nextInt(of.length)];
  }

  int[] of(ModelWorld world) {
    ModelText.Plan plan = world.plan;
    int[] image = oneOf(3) ? composed(plan) : world.image().stream().mapToInt(octet -> octet).toArray();
    for (int left = random.nextInt(4); left > 0; left--) {
      change(image, plan);
    }
    image[image.length - 1] = Trial.check(139, image, 0, image.length - 1);
    if (oneOf(15)) {
      image[random.nextInt(image.length)] ^= 1;
    }
    return oneOf(30) ? Arrays.copyOf(image, image.length + random.nextInt(3) - 1) : image;
  }

  private int[] composed(ModelText.Plan plan) {
    int[] image = new int[35 + plan.segments * plan.size()];
    Arrays.fill(image, 2, 34, 255);
    int snap = pick(0, 0, 5, 250, 65530, 65535);
    image[0] = snap >> 8;
    image[1] = snap & 255;
    int number = Math.max(0, snap - random.nextInt(3));
    int serial = pick(1, 3, 250, 254, 65530);
    List<Integer> order = new ArrayList<>();
    for (int s = 0; s < plan.segments; s++) {
      order.add(s);
    }
    Collections.shuffle(order, random);
    for (int s : order) {
      int first = oneOf(8) ? number + random.nextInt(3) - 1 : number;
      Trial.head(image, s * plan.size(), serial & 65535, first & 65535);
      number += frames(image, plan, s, serial);
      serial += oneOf(8) ? 0 : oneOf(8) ? 256 : 1;
    }
    return image;
  }

  /** Puts frames behind a head, most of them right: how many records they tell. */
  private int frames(int[] image, ModelText.Plan plan, int s, int serial) {
    int records = 0;
    int at = 5;
    boolean inside = false;
    while (at < plan.size() && !oneOf(12)) {
      int left = plan.bytes - at % plan.bytes;
      if (left < 5) {
        Arrays.fill(image, 34 + s * plan.size() + at, 34 + s * plan.size() + at + left, pick(0, 0, 0, 9));
        at += left;
        continue;
      }
      int length = oneOf(4) ? 1 + random.nextInt(left - 4) : Math.min(left - 4, 3 + random.nextInt(5));
      int kind = oneOf(20) ? random.nextInt(6) : inside ? pick(3, 4) : pick(1, 1, 2);
      int[] frame = frame(oneOf(30) ? random.nextInt(left) : length, kind, oneOf(30) ? serial + 1 : serial);
      int count = Math.min(frame.length, plan.size() - at);
      System.arraycopy(frame, 0, image, 34 + s * plan.size() + at, count);
      at += frame.length;
      inside = kind != 1 && kind != 4;
      records += inside ? 0 : 1;
    }
    return records;
  }

  private int[] frame(int length, int kind, int serial) {
    int[] frame = new int[4 + length];
    frame[1] = kind;
    frame[2] = length;
    frame[3] = serial & 255;
    for (int i = 4; i < frame.length; i++) {
      frame[i] = oneOf(20) ? random.nextInt(256) : random.nextInt(4);
    }
    frame[0] = Trial.check(7, frame, 1, frame.length);
    if (oneOf(25)) {
      frame[random.nextInt(frame.length)] ^= 1;
    }
    return frame;
  }

  private void change(int[] image, ModelText.Plan plan) {
    int s = random.nextInt(plan.segments) * plan.size();
    int other = random.nextInt(plan.segments) * plan.size();
    int serial = image[34 + s] << 8 | image[35 + s];
    int number = image[36 + s] << 8 | image[37 + s];
    int step = random.nextInt(3) - 1;
    int at = 34 + random.nextInt(image.length - 35);
    switch (random.nextInt(7)) {
      case 0: image[1] = image[1] + step & 255; break;
      case 1: value(image, random.nextInt(16), pick(7, 999, 1000, 65535)); break;
      case 2: Trial.head(image, s, serial + step & 65535, number); break;
      case 3: Trial.head(image, s, serial, number + step & 65535); break;
      case 4: System.arraycopy(image, 34 + s, image, 34 + other, plan.size()); break;
      case 5: image[at] = random.nextInt(256); break;
      default: image[at] = 255 - image[at]; break;
    }
  }

  private static void value(int[] image, int key, int value) {
    image[2 + 2 * key] = value >> 8;
    image[3 + 2 * key] = value & 255;
  }
}
