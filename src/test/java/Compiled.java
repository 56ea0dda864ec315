import java.io.DataInputStream;
import java.io.IOException;
import java.io.InputStream;
import java.util.ArrayList;
import java.util.List;
import java.util.TreeSet;

/** What a compiled class names: the members of other classes that it uses, and its texts. */
final class Compiled {
  private static final int UTF8 = 1;
  private static final int INT = 3;
  private static final int FLOAT = 4;
  private static final int LONG = 5;
  private static final int DOUBLE = 6;
  private static final int CLASS = 7;
  private static final int TEXT = 8;
  private static final int FIELD = 9;
  private static final int METHOD = 10;
  private static final int INTERFACE_METHOD = 11;
  private static final int NAME_AND_TYPE = 12;
  private static final int METHOD_HANDLE = 15;
  private static final int METHOD_TYPE = 16;
  private static final int DYNAMIC = 17;
  private static final int INVOKE_DYNAMIC = 18;

  private final int[] tags;
  private final int[] firsts;
  private final int[] seconds;
  private final String[] names;

  Compiled(Class<?> type) throws IOException {
    String file = type.getName() + ".class";
    try (InputStream bytes = type.getResourceAsStream("/" + file)) {
      if (bytes == null) throw new IOException("no " + file);
      DataInputStream in = new DataInputStream(bytes);
      in.skipNBytes(8);
      int many = in.readUnsignedShort();
      tags = new int[many];
      firsts = new int[many];
      seconds = new int[many];
      names = new String[many];
      int entry = 1;
      while (entry < many) {
        reads(entry, in);
        // Numbers of 8 bytes take two places.
        entry += tags[entry] == LONG || tags[entry] == DOUBLE ? 2 : 1;
      }
    }
  }

  private void reads(int entry, DataInputStream in) throws IOException {
    tags[entry] = in.readUnsignedByte();
    switch (tags[entry]) {
      case UTF8: names[entry] = in.readUTF(); break;
      case LONG: case DOUBLE: in.skipNBytes(8); break;
      case INT: case FLOAT: in.skipNBytes(4); break;
      case CLASS: case TEXT: case METHOD_TYPE: firsts[entry] = in.readUnsignedShort(); break;
      case METHOD_HANDLE: in.skipNBytes(3); break;
      default:
        firsts[entry] = in.readUnsignedShort();
        seconds[entry] = in.readUnsignedShort();
    }
  }

  /** Members of classes of other names, told as "java/lang/Math.max(II)I". */
  TreeSet<String> usesBeside(String own) {
    TreeSet<String> uses = new TreeSet<>();
    for (int entry = 1; entry < tags.length; entry++) {
      int tag = tags[entry];
      if (tag != FIELD && tag != METHOD && tag != INTERFACE_METHOD) continue;
      String of = names[firsts[firsts[entry]]];
      int member = seconds[entry];
      if (tags[member] != NAME_AND_TYPE || of.equals(own) || of.startsWith(own + "$")) continue;
      uses.add(of + "." + names[firsts[member]] + names[seconds[member]]);
    }
    return uses;
  }

  List<String> texts() {
    List<String> texts = new ArrayList<>();
    for (int entry = 1; entry < tags.length; entry++) {
      if (tags[entry] == TEXT) texts.add(names[firsts[entry]]);
    }
    return texts;
  }

  /** Lambdas, method references and texts joined by + are told so. */
  boolean isDynamic() {
    for (int tag : tags) {
      if (tag == METHOD_HANDLE || tag == DYNAMIC || tag == INVOKE_DYNAMIC) return true;
    }
    return false;
  }
}
