def px_T0 : u_T := fun k => match k with
  | _ => ("", "", "", false)
def px_T1 : u_T := fun k => match k with
  | 0 => ("FrozenTrees$Film", "story", "LFrozenTrees$Story;", true)
  | 1 => ("FrozenTrees$Film", "world", "LFrozenTrees$World;", true)
  | 2 => ("FrozenTrees$Film", "why", "[I", true)
  | 3 => ("FrozenTrees$Film", "tick", "I", false)
  | 4 => ("FrozenTrees$Film", "copiedInRound", "I", false)
  | 5 => ("FrozenTrees$Film", "copiedInAll", "I", false)
  | _ => ("FrozenTrees$Film", "copiedLast", "I", false)
def px_T2 : u_T := fun k => match k with
  | 0 => ("FrozenTrees$Plan", "way", "[I", true)
  | 1 => ("FrozenTrees$Plan", "order", "[I", true)
  | 2 => ("FrozenTrees$Plan", "size", "I", false)
  | _ => ("FrozenTrees$Plan", "left", "I", false)
def px_T3 : u_T := fun k => match k with
  | 0 => ("FrozenTrees$Reader", "tape", "LFrozenTrees$Tape;", true)
  | 1 => ("FrozenTrees$Reader", "fault", "I", false)
  | 2 => ("FrozenTrees$Reader", "place", "I", false)
  | 3 => ("FrozenTrees$Reader", "token", "I", false)
  | 4 => ("FrozenTrees$Reader", "start", "I", false)
  | 5 => ("FrozenTrees$Reader", "stop", "I", false)
  | _ => ("FrozenTrees$Reader", "value", "I", false)
def px_T4 : u_T := fun k => match k with
  | 0 => ("FrozenTrees$Row", "numbers", "[J", true)
  | 1 => ("FrozenTrees$Row", "there", "Z", false)
  | 2 => ("FrozenTrees$Row", "width", "I", false)
  | _ => ("FrozenTrees$Row", "size", "I", false)
def px_T5 : u_T := fun k => match k with
  | 0 => ("FrozenTrees$Seen", "ticks", "[I", true)
  | 1 => ("FrozenTrees$Seen", "processes", "[I", true)
  | 2 => ("FrozenTrees$Seen", "parents", "[I", true)
  | _ => ("FrozenTrees$Seen", "size", "I", false)
def px_T6 : u_T := fun k => match k with
  | 0 => ("FrozenTrees$Shapes", "film", "LFrozenTrees$Film;", true)
  | 1 => ("FrozenTrees$Shapes", "story", "LFrozenTrees$Story;", true)
  | 2 => ("FrozenTrees$Shapes", "labels", "[I", true)
  | 3 => ("FrozenTrees$Shapes", "met", "[I", true)
  | 4 => ("FrozenTrees$Shapes", "size", "I", false)
  | 5 => ("FrozenTrees$Shapes", "pictures", "[[J", true)
  | 6 => ("FrozenTrees$Shapes", "first", "[I", true)
  | 7 => ("FrozenTrees$Shapes", "times", "[I", true)
  | _ => ("FrozenTrees$Shapes", "known", "I", false)
def px_T7 : u_T := fun k => match k with
  | 0 => ("FrozenTrees$Story", "codes", "[I", true)
  | 1 => ("FrozenTrees$Story", "lines", "I", false)
  | 2 => ("FrozenTrees$Story", "law", "I", false)
  | 3 => ("FrozenTrees$Story", "odds", "I", false)
  | 4 => ("FrozenTrees$Story", "told", "I", false)
  | 5 => ("FrozenTrees$Story", "acts", "I", false)
  | _ => ("FrozenTrees$Story", "kept", "Z", false)
def px_T8 : u_T := fun k => match k with
  | 0 => ("FrozenTrees$Tape", "signs", "[I", true)
  | _ => ("FrozenTrees$Tape", "size", "I", false)
def px_T9 : u_T := fun k => match k with
  | 0 => ("FrozenTrees$World", "living", "I", false)
  | 1 => ("FrozenTrees$World", "made", "I", false)
  | 2 => ("FrozenTrees$World", "ever", "I", false)
  | 3 => ("FrozenTrees$World", "parentOf", "[I", true)
  | 4 => ("FrozenTrees$World", "sessionOf", "[I", true)
  | 5 => ("FrozenTrees$World", "soiled", "[I", true)
  | 6 => ("FrozenTrees$World", "held", "[I", true)
  | 7 => ("FrozenTrees$World", "sort", "[I", true)
  | 8 => ("FrozenTrees$World", "holders", "[I", true)
  | _ => ("FrozenTrees$World", "queue", "[I", true)
def px_T10 : u_T := fun k => match k with
  | 0 => ("FrozenTrees", "tape", "LFrozenTrees$Tape;", true)
  | 1 => ("FrozenTrees", "reader", "LFrozenTrees$Reader;", true)
  | 2 => ("FrozenTrees", "story", "LFrozenTrees$Story;", true)
  | 3 => ("FrozenTrees", "draft", "LFrozenTrees$Story;", true)
  | 4 => ("FrozenTrees", "images", "[LFrozenTrees$Story;", true)
  | 5 => ("FrozenTrees", "rows", "[LFrozenTrees$Row;", true)
  | 6 => ("FrozenTrees", "seen", "LFrozenTrees$Seen;", true)
  | 7 => ("FrozenTrees", "film", "LFrozenTrees$Film;", true)
  | 8 => ("FrozenTrees", "forms", "LFrozenTrees$Shapes;", true)
  | 9 => ("FrozenTrees", "plan", "LFrozenTrees$Plan;", true)
  | 10 => ("FrozenTrees", "trial", "LFrozenTrees$World;", true)
  | _ => ("FrozenTrees", "worths", "[I", true)
def px_T11 : u_T := fun k => match k with
  | 0 => ("FrozenTreesModel", "thrown", "I", false)
  | 1 => ("FrozenTreesModel", "world", "[I", true)
  | 2 => ("FrozenTreesModel", "images", "[I", true)
  | 3 => ("FrozenTreesModel", "hasImage", "[Z", true)
  | 4 => ("FrozenTreesModel", "tape", "[B", true)
  | 5 => ("FrozenTreesModel", "taped", "I", false)
  | 6 => ("FrozenTreesModel", "five", "[I", true)
  | 7 => ("FrozenTreesModel", "size", "I", false)
  | 8 => ("FrozenTreesModel", "at", "I", false)
  | 9 => ("FrozenTreesModel", "from", "I", false)
  | 10 => ("FrozenTreesModel", "token", "I", false)
  | 11 => ("FrozenTreesModel", "value", "I", false)
  | 12 => ("FrozenTreesModel", "faultKind", "I", false)
  | 13 => ("FrozenTreesModel", "faultPlace", "I", false)
  | 14 => ("FrozenTreesModel", "fresh", "[I", true)
  | 15 => ("FrozenTreesModel", "kindNow", "[I", true)
  | 16 => ("FrozenTreesModel", "processNow", "[I", true)
  | 17 => ("FrozenTreesModel", "firstNow", "[I", true)
  | 18 => ("FrozenTreesModel", "secondNow", "[I", true)
  | 19 => ("FrozenTreesModel", "isLeft", "[Z", true)
  | 20 => ("FrozenTreesModel", "manyNow", "I", false)
  | 21 => ("FrozenTreesModel", "lawNow", "I", false)
  | 22 => ("FrozenTreesModel", "aliveNow", "I", false)
  | 23 => ("FrozenTreesModel", "everNow", "I", false)
  | 24 => ("FrozenTreesModel", "parentNow", "[I", true)
  | 25 => ("FrozenTreesModel", "sessionNow", "[I", true)
  | 26 => ("FrozenTreesModel", "objectNow", "[I", true)
  | 27 => ("FrozenTreesModel", "madeNow", "I", false)
  | 28 => ("FrozenTreesModel", "kindOf", "[I", true)
  | 29 => ("FrozenTreesModel", "bytesNow", "[I", true)
  | 30 => ("FrozenTreesModel", "whyNow", "[I", true)
  | 31 => ("FrozenTreesModel", "dirtyBy", "[I", true)
  | 32 => ("FrozenTreesModel", "dirtyOf", "[I", true)
  | 33 => ("FrozenTreesModel", "aliveAt", "[I", true)
  | 34 => ("FrozenTreesModel", "madeAt", "[I", true)
  | 35 => ("FrozenTreesModel", "parentAt", "[I", true)
  | 36 => ("FrozenTreesModel", "sessionAt", "[I", true)
  | 37 => ("FrozenTreesModel", "objectAt", "[I", true)
  | 38 => ("FrozenTreesModel", "bytesAt", "[I", true)
  | 39 => ("FrozenTreesModel", "labelOf", "[I", true)
  | 40 => ("FrozenTreesModel", "labelled", "[I", true)
  | 41 => ("FrozenTreesModel", "labelMany", "I", false)
  | 42 => ("FrozenTreesModel", "shapeAt", "[I", true)
  | 43 => ("FrozenTreesModel", "raisedSet", "I", false)
  | 44 => ("FrozenTreesModel", "howBy", "[I", true)
  | 45 => ("FrozenTreesModel", "raisedBy", "[I", true)
  | 46 => ("FrozenTreesModel", "raisedMany", "I", false)
  | 47 => ("FrozenTreesModel", "mayMany", "I", false)
  | 48 => ("FrozenTreesModel", "mayFirst", "I", false)
  | 49 => ("FrozenTreesModel", "mayPlain", "I", false)
  | 50 => ("FrozenTreesModel", "worthBy", "[I", true)
  | 51 => ("FrozenTreesModel", "oftenAll", "J", false)
  | 52 => ("FrozenTreesModel", "oftenAlive", "J", false)
  | 53 => ("FrozenTreesModel", "oftenMany", "J", false)
  | 54 => ("FrozenTreesModel", "many", "[I", true)
  | 55 => ("FrozenTreesModel", "width", "[I", true)
  | 56 => ("FrozenTreesModel", "numbers", "[J", true)
  | _ => ("FrozenTreesModel", "moving", "[J", true)
def px_cls : List vw_C := [("FrozenTrees$Tape", px_T0, 0), ("FrozenTrees$Film", px_T1, 7), ("FrozenTrees$Plan", px_T2, 4), ("FrozenTrees$Reader", px_T3, 7), ("FrozenTrees$Row", px_T4, 4), ("FrozenTrees$Seen", px_T5, 4), ("FrozenTrees$Shapes", px_T6, 9), ("FrozenTrees$Story", px_T7, 7), ("FrozenTrees$Tape", px_T8, 2), ("FrozenTrees$World", px_T9, 10), ("FrozenTrees", px_T10, 12), ("FrozenTreesModel", px_T11, 58)]
def px_cnl : List String := ["FrozenTrees$Code", "FrozenTrees$Film", "FrozenTrees$Plan", "FrozenTrees$Reader", "FrozenTrees$Row", "FrozenTrees$Seen", "FrozenTrees$Shapes", "FrozenTrees$Story", "FrozenTrees$Tape", "FrozenTrees$World", "FrozenTrees", "FrozenTreesModel", "java/lang/String", "java/lang/Integer", "java/lang/Math", "java/lang/StringLatin1", "java/lang/StringUTF16", "java/lang/System", "java/util/Arrays", "jdk/internal/util/Preconditions", "FrozenTreesLaw"]
def px_cn (c : Nat) : String := px_cnl.getD c ""
def px_fcl : List (List Nat) := [[], [3, 3, 3, 0, 0, 0, 0], [3, 3, 0, 0], [3, 0, 0, 0, 0, 0, 0], [3, 2, 0, 0], [3, 3, 3, 0], [3, 3, 3, 3, 0, 3, 3, 3, 0], [3, 0, 0, 0, 0, 0, 2], [3, 0], [0, 0, 0, 3, 3, 3, 3, 3, 3, 3], [3, 3, 3, 3, 3, 3, 3, 3, 3, 3, 3, 3], [0, 3, 3, 3, 3, 0, 3, 0, 0, 0, 0, 0, 0, 0, 3, 3, 3, 3, 3, 3, 0, 0, 0, 0, 3, 3, 3, 0, 3, 3, 3, 3, 3, 3, 3, 3, 3, 3, 3, 3, 3, 0, 3, 0, 3, 3, 0, 0, 0, 0, 3, 1, 1, 1, 3, 3, 3, 3], [3, 0]]
def px_fc (c i : Nat) : Nat := (px_fcl.getD c []).getD i 9
def px_yns : List (List MethodName) := [[⟨"FrozenTrees$Code", "pack", "(IIII)I"⟩, ⟨"FrozenTrees$Code", "place", "(II)I"⟩, ⟨"FrozenTrees$Code", "kindOf", "(I)I"⟩, ⟨"FrozenTrees$Code", "numberOf", "(II)I"⟩, ⟨"FrozenTrees$Code", "numbersOf", "(I)I"⟩, ⟨"FrozenTrees$Code", "leastOf", "(II)I"⟩, ⟨"FrozenTrees$Code", "mostOf", "(II)I"⟩, ⟨"FrozenTrees$Code", "isAmount", "(II)Z"⟩, ⟨"FrozenTrees$Code", "fits", "(III)Z"⟩, ⟨"FrozenTrees$Code", "wordOf", "(I)Ljava/lang/String;"⟩, ⟨"FrozenTrees$Film", "forget", "()V"⟩, ⟨"FrozenTrees$Film", "at", "(I)LFrozenTrees$World;"⟩, ⟨"FrozenTrees$Film", "whyRefused", "(I)I"⟩, ⟨"FrozenTrees$Film", "refusedBefore", "(I)I"⟩, ⟨"FrozenTrees$Film", "precopy", "(IIII)V"⟩, ⟨"FrozenTrees$Film", "soiledPages", "()I"⟩, ⟨"FrozenTrees$Plan", "make", "(LFrozenTrees$World;)V"⟩, ⟨"FrozenTrees$Plan", "countBy", "(I)I"⟩, ⟨"FrozenTrees$Plan", "raise", "(II)V"⟩, ⟨"FrozenTrees$Plan", "raiseNext", "(LFrozenTrees$World;)V"⟩],
  [⟨"FrozenTrees$Plan", "wayFor", "(LFrozenTrees$World;I)I"⟩, ⟨"FrozenTrees$Reader", "readInto", "(LFrozenTrees$Story;)V"⟩, ⟨"FrozenTrees$Reader", "readHead", "(LFrozenTrees$Story;)V"⟩, ⟨"FrozenTrees$Reader", "readEvent", "(LFrozenTrees$Story;)V"⟩, ⟨"FrozenTrees$Reader", "kindTold", "()I"⟩, ⟨"FrozenTrees$Reader", "takeNumber", "(II)I"⟩, ⟨"FrozenTrees$Reader", "takeWord", "(Ljava/lang/String;)V"⟩, ⟨"FrozenTrees$Reader", "takeSemicolon", "()V"⟩, ⟨"FrozenTrees$Reader", "blame", "(I)V"⟩, ⟨"FrozenTrees$Reader", "isWord", "(Ljava/lang/String;)Z"⟩, ⟨"FrozenTrees$Reader", "step", "()V"⟩, ⟨"FrozenTrees$Reader", "stepWord", "()V"⟩, ⟨"FrozenTrees$Reader", "stepNumber", "()V"⟩, ⟨"FrozenTrees$Reader", "isBlank", "(I)Z"⟩, ⟨"FrozenTrees$Reader", "isLetter", "(I)Z"⟩, ⟨"FrozenTrees$Reader", "isDigit", "(I)Z"⟩, ⟨"FrozenTrees$Row", "begin", "(II)V"⟩, ⟨"FrozenTrees$Row", "put", "(IJ)V"⟩, ⟨"FrozenTrees$Row", "cut", "(J)J"⟩, ⟨"FrozenTrees$Row", "lacks", "(II)Z"⟩],
  [⟨"FrozenTrees$Seen", "learn", "(LFrozenTrees$Row;I)Z"⟩, ⟨"FrozenTrees$Seen", "insert", "(III)V"⟩, ⟨"FrozenTrees$Seen", "holdsFrom", "(IILFrozenTrees$World;)I"⟩, ⟨"FrozenTrees$Shapes", "forget", "()V"⟩, ⟨"FrozenTrees$Shapes", "giveLabels", "(LFrozenTrees$World;)V"⟩, ⟨"FrozenTrees$Shapes", "labelOf", "(I)I"⟩, ⟨"FrozenTrees$Shapes", "firstLike", "(I)I"⟩, ⟨"FrozenTrees$Shapes", "mostSeen", "()I"⟩, ⟨"FrozenTrees$Shapes", "learn", "()V"⟩, ⟨"FrozenTrees$Shapes", "areSame", "([J[J)Z"⟩, ⟨"FrozenTrees$Shapes", "draw", "(LFrozenTrees$World;[J)V"⟩, ⟨"FrozenTrees$Shapes", "drawProcess", "(LFrozenTrees$World;I)J"⟩, ⟨"FrozenTrees$Shapes", "drawObject", "(LFrozenTrees$World;I)J"⟩, ⟨"FrozenTrees$Story", "events", "()I"⟩, ⟨"FrozenTrees$Story", "code", "(I)I"⟩, ⟨"FrozenTrees$Story", "add", "(I)V"⟩, ⟨"FrozenTrees$Story", "clear", "()V"⟩, ⟨"FrozenTrees$Story", "become", "(LFrozenTrees$Story;)V"⟩, ⟨"FrozenTrees$Tape", "put", "(I)V"⟩, ⟨"FrozenTrees$Tape", "sign", "(I)I"⟩],
  [⟨"FrozenTrees$World", "begin", "()V"⟩, ⟨"FrozenTrees$World", "take", "(LFrozenTrees$World;)V"⟩, ⟨"FrozenTrees$World", "clean", "()V"⟩, ⟨"FrozenTrees$World", "lives", "(I)Z"⟩, ⟨"FrozenTrees$World", "hangsFrom", "(I)I"⟩, ⟨"FrozenTrees$World", "stepsUp", "(I)I"⟩, ⟨"FrozenTrees$World", "isBelow", "(II)Z"⟩, ⟨"FrozenTrees$World", "countBelow", "(I)I"⟩, ⟨"FrozenTrees$World", "objectOf", "(II)I"⟩, ⟨"FrozenTrees$World", "holdersOf", "(I)I"⟩, ⟨"FrozenTrees$World", "bytesOf", "(I)I"⟩, ⟨"FrozenTrees$World", "readEndOf", "(I)I"⟩, ⟨"FrozenTrees$World", "otherEnd", "(I)I"⟩, ⟨"FrozenTrees$World", "act", "(II)I"⟩, ⟨"FrozenTrees$World", "fork", "(II)I"⟩, ⟨"FrozenTrees$World", "lead", "(I)I"⟩, ⟨"FrozenTrees$World", "exit", "(II)I"⟩, ⟨"FrozenTrees$World", "newParent", "(IIII)I"⟩, ⟨"FrozenTrees$World", "open", "(II)I"⟩, ⟨"FrozenTrees$World", "pipe", "(III)I"⟩],
  [⟨"FrozenTrees$World", "copy", "(III)I"⟩, ⟨"FrozenTrees$World", "close", "(II)I"⟩, ⟨"FrozenTrees$World", "pour", "(II)I"⟩, ⟨"FrozenTrees$World", "drain", "(II)I"⟩, ⟨"FrozenTrees$World", "newObject", "(I)I"⟩, ⟨"FrozenTrees$World", "hold", "(III)V"⟩, ⟨"FrozenTrees", "feed", "(IIIII)I"⟩, ⟨"FrozenTrees", "end", "(I)I"⟩, ⟨"FrozenTrees", "system", "()I"⟩, ⟨"FrozenTrees", "fault", "(I)I"⟩, ⟨"FrozenTrees", "event", "(II)I"⟩, ⟨"FrozenTrees", "refused", "(I)I"⟩, ⟨"FrozenTrees", "refusals", "(I)I"⟩, ⟨"FrozenTrees", "alive", "(I)I"⟩, ⟨"FrozenTrees", "parent", "(II)I"⟩, ⟨"FrozenTrees", "session", "(II)I"⟩, ⟨"FrozenTrees", "kids", "(II)I"⟩, ⟨"FrozenTrees", "under", "(II)I"⟩, ⟨"FrozenTrees", "depth", "(II)I"⟩, ⟨"FrozenTrees", "members", "(II)I"⟩],
  [⟨"FrozenTrees", "sessions", "(I)I"⟩, ⟨"FrozenTrees", "born", "(I)I"⟩, ⟨"FrozenTrees", "died", "(I)I"⟩, ⟨"FrozenTrees", "object", "(III)I"⟩, ⟨"FrozenTrees", "handles", "(II)I"⟩, ⟨"FrozenTrees", "holds", "(II)I"⟩, ⟨"FrozenTrees", "kind", "(II)I"⟩, ⟨"FrozenTrees", "objects", "(I)I"⟩, ⟨"FrozenTrees", "queued", "(II)I"⟩, ⟨"FrozenTrees", "bytes", "(I)I"⟩, ⟨"FrozenTrees", "label", "(III)I"⟩, ⟨"FrozenTrees", "sharers", "(III)I"⟩, ⟨"FrozenTrees", "alike", "(II)I"⟩, ⟨"FrozenTrees", "same", "(I)I"⟩, ⟨"FrozenTrees", "shapes", "()I"⟩, ⟨"FrozenTrees", "usual", "()I"⟩, ⟨"FrozenTrees", "how", "(II)I"⟩, ⟨"FrozenTrees", "lost", "(I)I"⟩, ⟨"FrozenTrees", "steps", "(I)I"⟩, ⟨"FrozenTrees", "raised", "(II)I"⟩],
  [⟨"FrozenTrees", "helpers", "(I)I"⟩, ⟨"FrozenTrees", "safe", "()I"⟩, ⟨"FrozenTrees", "dirty", "(III)I"⟩, ⟨"FrozenTrees", "round", "(IIII)I"⟩, ⟨"FrozenTrees", "copied", "(III)I"⟩, ⟨"FrozenTrees", "pace", "(II)I"⟩, ⟨"FrozenTrees", "spare", "()I"⟩, ⟨"FrozenTrees", "root", "()I"⟩, ⟨"FrozenTrees", "may", "(I)I"⟩, ⟨"FrozenTrees", "which", "(I)I"⟩, ⟨"FrozenTrees", "plain", "(I)I"⟩, ⟨"FrozenTrees", "laws", "(I)I"⟩, ⟨"FrozenTrees", "by", "(I)I"⟩, ⟨"FrozenTrees", "law", "()I"⟩, ⟨"FrozenTrees", "worth", "(I)I"⟩, ⟨"FrozenTrees", "share", "(II)I"⟩, ⟨"FrozenTrees", "rests", "(II)I"⟩, ⟨"FrozenTrees", "gets", "(IIII)I"⟩, ⟨"FrozenTrees", "chance", "(III)J"⟩, ⟨"FrozenTrees", "mean", "(II)J"⟩],
  [⟨"FrozenTrees", "does", "(IIII)I"⟩, ⟨"FrozenTrees", "undo", "()I"⟩, ⟨"FrozenTrees", "anew", "()I"⟩, ⟨"FrozenTrees", "drawn", "(II)I"⟩, ⟨"FrozenTrees", "luck", "(III)I"⟩, ⟨"FrozenTrees", "count", "(I)I"⟩, ⟨"FrozenTrees", "image", "(I)I"⟩, ⟨"FrozenTrees", "back", "(I)I"⟩, ⟨"FrozenTrees", "row", "(III)I"⟩, ⟨"FrozenTrees", "write", "(IIJ)I"⟩, ⟨"FrozenTrees", "paste", "(IIIII)I"⟩, ⟨"FrozenTrees", "noSystem", "()Z"⟩, ⟨"FrozenTrees", "noTick", "(I)Z"⟩, ⟨"FrozenTrees", "noProcess", "(I)Z"⟩, ⟨"FrozenTrees", "noHandle", "(II)Z"⟩, ⟨"FrozenTrees", "noObject", "(I)Z"⟩, ⟨"FrozenTrees", "noSlot", "(I)Z"⟩, ⟨"FrozenTrees", "noSeed", "(I)Z"⟩, ⟨"FrozenTrees", "noPair", "(II)Z"⟩, ⟨"FrozenTrees", "noPrecopy", "(III)Z"⟩],
  [⟨"FrozenTrees", "noChance", "(II)Z"⟩, ⟨"FrozenTrees", "bit", "(I)I"⟩, ⟨"FrozenTrees", "rowsThere", "()I"⟩, ⟨"FrozenTrees", "forgetRuns", "()V"⟩, ⟨"FrozenTrees", "firstTickOf", "(IZI)I"⟩, ⟨"FrozenTrees", "runTrial", "(II)I"⟩, ⟨"FrozenTrees", "lostBy", "(I)I"⟩, ⟨"FrozenTrees", "lookAt", "(I)I"⟩, ⟨"FrozenTrees", "isAsSeen", "(II)Z"⟩, ⟨"FrozenTrees", "worthOf", "(I)I"⟩, ⟨"FrozenTrees", "payOf", "(IIIIZ)I"⟩, ⟨"FrozenTrees", "weigh", "(II)J"⟩, ⟨"FrozenTrees", "tensOf", "(I)J"⟩, ⟨"FrozenTrees", "lowestTerms", "(JJI)J"⟩, ⟨"FrozenTrees", "runDrawn", "(J)I"⟩, ⟨"FrozenTreesModel", "in", "(JJJ)Z"⟩, ⟨"FrozenTreesModel", "bits", "(I)I"⟩, ⟨"FrozenTreesModel", "bit", "(II)I"⟩, ⟨"FrozenTreesModel", "image", "(I)I"⟩, ⟨"FrozenTreesModel", "back", "(I)I"⟩],
  [⟨"FrozenTreesModel", "isSystem", "()Z"⟩, ⟨"FrozenTreesModel", "eventMany", "()I"⟩, ⟨"FrozenTreesModel", "isEvent", "(I)Z"⟩, ⟨"FrozenTreesModel", "isTick", "(J)Z"⟩, ⟨"FrozenTreesModel", "isProcess", "(J)Z"⟩, ⟨"FrozenTreesModel", "isHandle", "(I)Z"⟩, ⟨"FrozenTreesModel", "isObject", "(I)Z"⟩, ⟨"FrozenTreesModel", "of", "(II)I"⟩, ⟨"FrozenTreesModel", "greatest", "(II)I"⟩, ⟨"FrozenTreesModel", "smallest", "(II)I"⟩, ⟨"FrozenTreesModel", "feed", "(IIIII)I"⟩, ⟨"FrozenTreesModel", "end", "(I)I"⟩, ⟨"FrozenTreesModel", "see", "(I)I"⟩, ⟨"FrozenTreesModel", "advance", "()V"⟩, ⟨"FrozenTreesModel", "good", "()Z"⟩, ⟨"FrozenTreesModel", "errs", "(I)V"⟩, ⟨"FrozenTreesModel", "is", "(Ljava/lang/String;)Z"⟩, ⟨"FrozenTreesModel", "takes", "(Ljava/lang/String;)Z"⟩, ⟨"FrozenTreesModel", "expects", "(Ljava/lang/String;)V"⟩, ⟨"FrozenTreesModel", "number", "(II)I"⟩],
  [⟨"FrozenTreesModel", "toldBy", "(Ljava/lang/String;II)I"⟩, ⟨"FrozenTreesModel", "fault", "(I)I"⟩, ⟨"FrozenTreesModel", "kindWord", "()I"⟩, ⟨"FrozenTreesModel", "readFirst", "()V"⟩, ⟨"FrozenTreesModel", "readNext", "()V"⟩, ⟨"FrozenTreesModel", "readLine", "()V"⟩, ⟨"FrozenTreesModel", "system", "()I"⟩, ⟨"FrozenTreesModel", "event", "(II)I"⟩, ⟨"FrozenTreesModel", "layEvent", "(IIII)V"⟩, ⟨"FrozenTreesModel", "asItIs", "()V"⟩, ⟨"FrozenTreesModel", "objectOf", "(II)I"⟩, ⟨"FrozenTreesModel", "isHeld", "(I)Z"⟩, ⟨"FrozenTreesModel", "handleWhy", "(IIII)I"⟩, ⟨"FrozenTreesModel", "pipeWhy", "(IIII)I"⟩, ⟨"FrozenTreesModel", "whyOf", "(I)I"⟩, ⟨"FrozenTreesModel", "hangsBy", "([IIII)Z"⟩, ⟨"FrozenTreesModel", "newParent", "(III)I"⟩, ⟨"FrozenTreesModel", "exit", "(I)V"⟩, ⟨"FrozenTreesModel", "fork", "(II)V"⟩, ⟨"FrozenTreesModel", "makes", "(I)I"⟩],
  [⟨"FrozenTreesModel", "applies", "(I)V"⟩, ⟨"FrozenTreesModel", "keepTick", "(I)V"⟩, ⟨"FrozenTreesModel", "begins", "()V"⟩, ⟨"FrozenTreesModel", "goAll", "()V"⟩, ⟨"FrozenTreesModel", "asks", "()Z"⟩, ⟨"FrozenTreesModel", "asksTick", "(I)Z"⟩, ⟨"FrozenTreesModel", "asksOne", "(II)Z"⟩, ⟨"FrozenTreesModel", "isAlive", "(II)Z"⟩, ⟨"FrozenTreesModel", "parentOf", "(II)I"⟩, ⟨"FrozenTreesModel", "sessionOf", "(II)I"⟩, ⟨"FrozenTreesModel", "aliveMany", "(I)I"⟩, ⟨"FrozenTreesModel", "refused", "(I)I"⟩, ⟨"FrozenTreesModel", "refusals", "(I)I"⟩, ⟨"FrozenTreesModel", "alive", "(I)I"⟩, ⟨"FrozenTreesModel", "parent", "(II)I"⟩, ⟨"FrozenTreesModel", "session", "(II)I"⟩, ⟨"FrozenTreesModel", "kids", "(II)I"⟩, ⟨"FrozenTreesModel", "underOf", "(II)I"⟩, ⟨"FrozenTreesModel", "under", "(II)I"⟩, ⟨"FrozenTreesModel", "depth", "(II)I"⟩],
  [⟨"FrozenTreesModel", "membersOf", "(II)I"⟩, ⟨"FrozenTreesModel", "members", "(II)I"⟩, ⟨"FrozenTreesModel", "sessions", "(I)I"⟩, ⟨"FrozenTreesModel", "bornOf", "(I)I"⟩, ⟨"FrozenTreesModel", "born", "(I)I"⟩, ⟨"FrozenTreesModel", "died", "(I)I"⟩, ⟨"FrozenTreesModel", "heldBy", "(III)I"⟩, ⟨"FrozenTreesModel", "holdsOf", "(II)I"⟩, ⟨"FrozenTreesModel", "object", "(III)I"⟩, ⟨"FrozenTreesModel", "handles", "(II)I"⟩, ⟨"FrozenTreesModel", "holds", "(II)I"⟩, ⟨"FrozenTreesModel", "kind", "(II)I"⟩, ⟨"FrozenTreesModel", "objects", "(I)I"⟩, ⟨"FrozenTreesModel", "queuedOf", "(II)I"⟩, ⟨"FrozenTreesModel", "queued", "(II)I"⟩, ⟨"FrozenTreesModel", "bytes", "(I)I"⟩, ⟨"FrozenTreesModel", "layLabels", "(I)V"⟩, ⟨"FrozenTreesModel", "label", "(III)I"⟩, ⟨"FrozenTreesModel", "sharers", "(III)I"⟩, ⟨"FrozenTreesModel", "layShape", "(I)V"⟩],
  [⟨"FrozenTreesModel", "isAlike", "(II)Z"⟩, ⟨"FrozenTreesModel", "asksShapes", "()Z"⟩, ⟨"FrozenTreesModel", "sameOf", "(I)I"⟩, ⟨"FrozenTreesModel", "alike", "(II)I"⟩, ⟨"FrozenTreesModel", "same", "(I)I"⟩, ⟨"FrozenTreesModel", "shapes", "()I"⟩, ⟨"FrozenTreesModel", "usual", "()I"⟩, ⟨"FrozenTreesModel", "howOf", "(II)I"⟩, ⟨"FrozenTreesModel", "raise", "(II)V"⟩, ⟨"FrozenTreesModel", "nextRaised", "(I)I"⟩, ⟨"FrozenTreesModel", "raiseAll", "(I)V"⟩, ⟨"FrozenTreesModel", "asksRaised", "(I)Z"⟩, ⟨"FrozenTreesModel", "lostOf", "(I)I"⟩, ⟨"FrozenTreesModel", "how", "(II)I"⟩, ⟨"FrozenTreesModel", "lost", "(I)I"⟩, ⟨"FrozenTreesModel", "steps", "(I)I"⟩, ⟨"FrozenTreesModel", "raised", "(II)I"⟩, ⟨"FrozenTreesModel", "helpers", "(I)I"⟩, ⟨"FrozenTreesModel", "safe", "()I"⟩, ⟨"FrozenTreesModel", "dirtyIn", "(III)I"⟩],
  [⟨"FrozenTreesModel", "dirty", "(III)I"⟩, ⟨"FrozenTreesModel", "copiedIn", "(II)I"⟩, ⟨"FrozenTreesModel", "lastRound", "(III)I"⟩, ⟨"FrozenTreesModel", "roundOf", "(IIII)I"⟩, ⟨"FrozenTreesModel", "copiedAll", "(III)I"⟩, ⟨"FrozenTreesModel", "asksCopy", "(II)Z"⟩, ⟨"FrozenTreesModel", "round", "(IIII)I"⟩, ⟨"FrozenTreesModel", "copied", "(III)I"⟩, ⟨"FrozenTreesModel", "pace", "(II)I"⟩, ⟨"FrozenTreesModel", "goWithout", "(I)V"⟩, ⟨"FrozenTreesModel", "spare", "()I"⟩, ⟨"FrozenTreesModel", "refusedBut", "(I)I"⟩, ⟨"FrozenTreesModel", "root", "()I"⟩, ⟨"FrozenTreesModel", "numberAt", "(II)J"⟩, ⟨"FrozenTreesModel", "askSeen", "(I)I"⟩, ⟨"FrozenTreesModel", "isSeen", "(I)Z"⟩, ⟨"FrozenTreesModel", "layMay", "(I)I"⟩, ⟨"FrozenTreesModel", "may", "(I)I"⟩, ⟨"FrozenTreesModel", "which", "(I)I"⟩, ⟨"FrozenTreesModel", "plain", "(I)I"⟩],
  [⟨"FrozenTreesModel", "laws", "(I)I"⟩, ⟨"FrozenTreesModel", "lostByLaw", "(I)I"⟩, ⟨"FrozenTreesModel", "by", "(I)I"⟩, ⟨"FrozenTreesModel", "law", "()I"⟩, ⟨"FrozenTreesModel", "worthOf", "(I)I"⟩, ⟨"FrozenTreesModel", "worth", "(I)I"⟩, ⟨"FrozenTreesModel", "factorial", "(I)I"⟩, ⟨"FrozenTreesModel", "divisor", "(JJ)J"⟩, ⟨"FrozenTreesModel", "part", "(JJI)J"⟩, ⟨"FrozenTreesModel", "share", "(II)I"⟩, ⟨"FrozenTreesModel", "getsBy", "(IIIII)I"⟩, ⟨"FrozenTreesModel", "areTwo", "(II)Z"⟩, ⟨"FrozenTreesModel", "rests", "(II)I"⟩, ⟨"FrozenTreesModel", "gets", "(IIII)I"⟩, ⟨"FrozenTreesModel", "layChance", "(II)V"⟩, ⟨"FrozenTreesModel", "isChance", "(II)Z"⟩, ⟨"FrozenTreesModel", "chance", "(III)J"⟩, ⟨"FrozenTreesModel", "mean", "(II)J"⟩, ⟨"FrozenTreesModel", "isNumber", "(III)Z"⟩, ⟨"FrozenTreesModel", "does", "(IIII)I"⟩],
  [⟨"FrozenTreesModel", "undo", "()I"⟩, ⟨"FrozenTreesModel", "anew", "()I"⟩, ⟨"FrozenTreesModel", "goDrawn", "(J)I"⟩, ⟨"FrozenTreesModel", "isSeed", "(I)Z"⟩, ⟨"FrozenTreesModel", "drawn", "(II)I"⟩, ⟨"FrozenTreesModel", "luck", "(III)I"⟩, ⟨"FrozenTreesModel", "count", "(I)I"⟩, ⟨"FrozenTreesModel", "isSlot", "(I)Z"⟩, ⟨"FrozenTreesModel", "clipped", "(JI)J"⟩, ⟨"FrozenTreesModel", "row", "(III)I"⟩, ⟨"FrozenTreesModel", "write", "(IIJ)I"⟩, ⟨"FrozenTreesModel", "paste", "(IIIII)I"⟩, ⟨"java/lang/Integer", "bitCount", "(I)I"⟩, ⟨"java/lang/String", "length", "()I"⟩, ⟨"java/lang/String", "charAt", "(I)C"⟩, ⟨"java/lang/String", "coder", "()B"⟩, ⟨"java/lang/String", "isLatin1", "()Z"⟩, ⟨"java/lang/String", "checkIndex", "(II)V"⟩, ⟨"java/lang/StringLatin1", "charAt", "([BI)C"⟩, ⟨"java/util/Arrays", "fill", "([JJ)V"⟩],
  [⟨"java/util/Arrays", "fill", "([II)V"⟩, ⟨"jdk/internal/util/Preconditions", "checkIndex", "(IILjava/util/function/BiFunction;)I"⟩, ⟨"FrozenTreesLaw", "law", "([I)Z"⟩]]
def px_yn (k : Nat) : MethodName := (px_yns.getD (k / 20) []).getD (k % 20) ⟨"", "", ""⟩
def px_bys : List (List ByteArray) := [[prog_2_method_2_code, prog_2_method_3_code, prog_2_method_4_code, prog_2_method_5_code, prog_2_method_6_code, prog_2_method_7_code, prog_2_method_8_code, prog_2_method_9_code, prog_2_method_10_code, prog_2_method_11_code, prog_3_method_2_code, prog_3_method_3_code, prog_3_method_4_code, prog_3_method_5_code, prog_3_method_6_code, prog_3_method_7_code, prog_4_method_2_code, prog_4_method_3_code, prog_4_method_4_code, prog_4_method_5_code],
  [prog_4_method_6_code, prog_5_method_2_code, prog_5_method_3_code, prog_5_method_4_code, prog_5_method_5_code, prog_5_method_6_code, prog_5_method_7_code, prog_5_method_8_code, prog_5_method_9_code, prog_5_method_10_code, prog_5_method_11_code, prog_5_method_12_code, prog_5_method_13_code, prog_5_method_14_code, prog_5_method_15_code, prog_5_method_16_code, prog_6_method_2_code, prog_6_method_3_code, prog_6_method_4_code, prog_6_method_5_code],
  [prog_7_method_2_code, prog_7_method_3_code, prog_7_method_4_code, prog_8_method_2_code, prog_8_method_3_code, prog_8_method_4_code, prog_8_method_5_code, prog_8_method_6_code, prog_8_method_7_code, prog_8_method_8_code, prog_8_method_9_code, prog_8_method_10_code, prog_8_method_11_code, prog_9_method_2_code, prog_9_method_3_code, prog_9_method_4_code, prog_9_method_5_code, prog_9_method_6_code, prog_10_method_2_code, prog_10_method_3_code],
  [prog_11_method_2_code, prog_11_method_3_code, prog_11_method_4_code, prog_11_method_5_code, prog_11_method_6_code, prog_11_method_7_code, prog_11_method_8_code, prog_11_method_9_code, prog_11_method_10_code, prog_11_method_11_code, prog_11_method_12_code, prog_11_method_13_code, prog_11_method_14_code, prog_11_method_15_code, prog_11_method_16_code, prog_11_method_17_code, prog_11_method_18_code, prog_11_method_19_code, prog_11_method_20_code, prog_11_method_21_code],
  [prog_11_method_22_code, prog_11_method_23_code, prog_11_method_24_code, prog_11_method_25_code, prog_11_method_26_code, prog_11_method_27_code, prog_1_method_2_code, prog_1_method_3_code, prog_1_method_4_code, prog_1_method_5_code, prog_1_method_6_code, prog_1_method_7_code, prog_1_method_8_code, prog_1_method_9_code, prog_1_method_10_code, prog_1_method_11_code, prog_1_method_12_code, prog_1_method_13_code, prog_1_method_14_code, prog_1_method_15_code],
  [prog_1_method_16_code, prog_1_method_17_code, prog_1_method_18_code, prog_1_method_19_code, prog_1_method_20_code, prog_1_method_21_code, prog_1_method_22_code, prog_1_method_23_code, prog_1_method_24_code, prog_1_method_25_code, prog_1_method_26_code, prog_1_method_27_code, prog_1_method_28_code, prog_1_method_29_code, prog_1_method_30_code, prog_1_method_31_code, prog_1_method_32_code, prog_1_method_33_code, prog_1_method_34_code, prog_1_method_35_code],
  [prog_1_method_36_code, prog_1_method_37_code, prog_1_method_38_code, prog_1_method_39_code, prog_1_method_40_code, prog_1_method_41_code, prog_1_method_42_code, prog_1_method_43_code, prog_1_method_44_code, prog_1_method_45_code, prog_1_method_46_code, prog_1_method_47_code, prog_1_method_48_code, prog_1_method_49_code, prog_1_method_50_code, prog_1_method_51_code, prog_1_method_52_code, prog_1_method_53_code, prog_1_method_54_code, prog_1_method_55_code],
  [prog_1_method_56_code, prog_1_method_57_code, prog_1_method_58_code, prog_1_method_59_code, prog_1_method_60_code, prog_1_method_61_code, prog_1_method_62_code, prog_1_method_63_code, prog_1_method_64_code, prog_1_method_65_code, prog_1_method_66_code, prog_1_method_67_code, prog_1_method_68_code, prog_1_method_69_code, prog_1_method_70_code, prog_1_method_71_code, prog_1_method_72_code, prog_1_method_73_code, prog_1_method_74_code, prog_1_method_75_code],
  [prog_1_method_76_code, prog_1_method_77_code, prog_1_method_78_code, prog_1_method_79_code, prog_1_method_80_code, prog_1_method_81_code, prog_1_method_82_code, prog_1_method_83_code, prog_1_method_84_code, prog_1_method_85_code, prog_1_method_86_code, prog_1_method_87_code, prog_1_method_88_code, prog_1_method_89_code, prog_1_method_90_code, prog_13_method_3_code, prog_13_method_4_code, prog_13_method_5_code, prog_13_method_6_code, prog_13_method_7_code],
  [prog_13_method_8_code, prog_13_method_9_code, prog_13_method_10_code, prog_13_method_11_code, prog_13_method_12_code, prog_13_method_13_code, prog_13_method_14_code, prog_13_method_15_code, prog_13_method_16_code, prog_13_method_17_code, prog_13_method_18_code, prog_13_method_19_code, prog_13_method_20_code, prog_13_method_21_code, prog_13_method_22_code, prog_13_method_23_code, prog_13_method_24_code, prog_13_method_25_code, prog_13_method_26_code, prog_13_method_27_code],
  [prog_13_method_28_code, prog_13_method_29_code, prog_13_method_30_code, prog_13_method_31_code, prog_13_method_32_code, prog_13_method_33_code, prog_13_method_34_code, prog_13_method_35_code, prog_13_method_36_code, prog_13_method_37_code, prog_13_method_38_code, prog_13_method_39_code, prog_13_method_40_code, prog_13_method_41_code, prog_13_method_42_code, prog_13_method_43_code, prog_13_method_44_code, prog_13_method_45_code, prog_13_method_46_code, prog_13_method_47_code],
  [prog_13_method_48_code, prog_13_method_49_code, prog_13_method_50_code, prog_13_method_51_code, prog_13_method_52_code, prog_13_method_53_code, prog_13_method_54_code, prog_13_method_55_code, prog_13_method_56_code, prog_13_method_57_code, prog_13_method_58_code, prog_13_method_59_code, prog_13_method_60_code, prog_13_method_61_code, prog_13_method_62_code, prog_13_method_63_code, prog_13_method_64_code, prog_13_method_65_code, prog_13_method_66_code, prog_13_method_67_code],
  [prog_13_method_68_code, prog_13_method_69_code, prog_13_method_70_code, prog_13_method_71_code, prog_13_method_72_code, prog_13_method_73_code, prog_13_method_74_code, prog_13_method_75_code, prog_13_method_76_code, prog_13_method_77_code, prog_13_method_78_code, prog_13_method_79_code, prog_13_method_80_code, prog_13_method_81_code, prog_13_method_82_code, prog_13_method_83_code, prog_13_method_84_code, prog_13_method_85_code, prog_13_method_86_code, prog_13_method_87_code],
  [prog_13_method_88_code, prog_13_method_89_code, prog_13_method_90_code, prog_13_method_91_code, prog_13_method_92_code, prog_13_method_93_code, prog_13_method_94_code, prog_13_method_95_code, prog_13_method_96_code, prog_13_method_97_code, prog_13_method_98_code, prog_13_method_99_code, prog_13_method_100_code, prog_13_method_101_code, prog_13_method_102_code, prog_13_method_103_code, prog_13_method_104_code, prog_13_method_105_code, prog_13_method_106_code, prog_13_method_107_code],
  [prog_13_method_108_code, prog_13_method_109_code, prog_13_method_110_code, prog_13_method_111_code, prog_13_method_112_code, prog_13_method_113_code, prog_13_method_114_code, prog_13_method_115_code, prog_13_method_116_code, prog_13_method_117_code, prog_13_method_118_code, prog_13_method_119_code, prog_13_method_120_code, prog_13_method_121_code, prog_13_method_122_code, prog_13_method_123_code, prog_13_method_124_code, prog_13_method_125_code, prog_13_method_126_code, prog_13_method_127_code],
  [prog_13_method_128_code, prog_13_method_129_code, prog_13_method_130_code, prog_13_method_131_code, prog_13_method_132_code, prog_13_method_133_code, prog_13_method_134_code, prog_13_method_135_code, prog_13_method_136_code, prog_13_method_137_code, prog_13_method_138_code, prog_13_method_139_code, prog_13_method_140_code, prog_13_method_141_code, prog_13_method_142_code, prog_13_method_143_code, prog_13_method_144_code, prog_13_method_145_code, prog_13_method_146_code, prog_13_method_147_code],
  [prog_13_method_148_code, prog_13_method_149_code, prog_13_method_150_code, prog_13_method_151_code, prog_13_method_152_code, prog_13_method_153_code, prog_13_method_154_code, prog_13_method_155_code, prog_13_method_156_code, prog_13_method_157_code, prog_13_method_158_code, prog_13_method_159_code, prog_14_method_49_code, prog_16_method_54_code, prog_16_method_56_code, prog_16_method_152_code, prog_16_method_154_code, prog_16_method_155_code, prog_17_method_2_code, prog_20_method_101_code],
  [prog_20_method_103_code, prog_21_method_11_code, code]]
def px_by (k : Nat) : ByteArray := (px_bys.getD (k / 20) []).getD (k % 20) ⟨#[]⟩
def px_mes : List (List (Nat × Nat × Nat × Nat × Nat × Nat × List Nat × List Nat)) := [[(0, 4, 1, 1, 21, 4, [], [1173, 1172, 0, 144]), (0, 2, 1, 0, 0, 2, [], [640, 639, 0, 144]), (0, 1, 1, 0, 0, 1, [], [685, 684, 0, 144]), (0, 2, 1, 0, 0, 2, [], [689, 688, 0, 144]), (0, 1, 1, 0, 0, 1, [], [625, 624, 0, 144]), (0, 2, 1, 1, 21, 2, [], [630, 629, 0, 144]), (0, 2, 1, 1, 21, 2, [], [637, 636, 0, 144]), (0, 2, 2, 0, 0, 2, [], [634, 633, 0, 144]), (0, 3, 2, 2, 42, 3, [], [1206, 1205, 0, 144]), (0, 1, 7, 0, 0, 1, [], [611, 610, 0, 144]), (1, 1, 0, 2, 43, 1, [], [663, 661, 662, 133]), (1, 2, 4, 4, 100, 2, [], [704, 702, 703, 133]), (1, 2, 1, 5, 121, 2, [], [697, 695, 696, 133]), (1, 4, 1, 5, 121, 2, [], [800, 798, 799, 133]), (1, 7, 0, 5, 121, 5, [], [1049, 1047, 1048, 133]), (1, 3, 1, 1, 21, 1, [], [1056, 1055, 36, 133]), (2, 3, 0, 3, 65, 2, [], [991, 989, 990, 137]), (2, 4, 1, 0, 0, 2, [], [1017, 1015, 1016, 137]), (2, 3, 0, 1, 20, 3, [], [996, 995, 32, 137]), (2, 4, 0, 2, 42, 2, [], [1001, 1000, 33, 137])],
  [(2, 5, 1, 0, 0, 3, [], [1005, 1004, 34, 137]), (3, 3, 0, 7, 152, 2, [], [493, 491, 492, 129]), (3, 2, 0, 6, 128, 2, [], [529, 528, 3, 129]), (3, 5, 0, 6, 128, 2, [], [604, 603, 9, 129]), (3, 2, 1, 5, 107, 1, [], [608, 607, 10, 129]), (3, 4, 1, 3, 61, 3, [], [595, 594, 7, 129]), (3, 2, 0, 5, 107, 2, [], [534, 533, 4, 129]), (3, 1, 0, 3, 61, 1, [], [600, 599, 8, 129]), (3, 2, 0, 0, 0, 2, [], [590, 589, 6, 129]), (3, 3, 2, 4, 85, 2, [], [538, 537, 5, 129]), (3, 1, 0, 2, 41, 1, [], [501, 500, 0, 129]), (3, 1, 0, 1, 21, 1, [], [515, 514, 1, 129]), (3, 1, 0, 1, 21, 1, [], [522, 521, 2, 129]), (3, 1, 2, 0, 0, 1, [], [508, 507, 0, 129]), (3, 1, 2, 0, 0, 1, [], [511, 510, 0, 129]), (3, 1, 2, 0, 0, 1, [], [518, 517, 0, 129]), (4, 3, 0, 1, 24, 3, [], [1261, 1259, 1260, 131]), (4, 4, 0, 1, 22, 3, [2], [1270, 1268, 1269, 131]), (4, 3, 3, 0, 0, 2, [1], [1274, 1273, 48, 131]), (4, 3, 2, 0, 0, 3, [], [1282, 1280, 1281, 131])],
  [(5, 10, 2, 1, 24, 3, [4, 6, 8], [1094, 1092, 1093, 132]), (5, 5, 0, 0, 0, 4, [], [1100, 1099, 39, 132]), (5, 5, 1, 2, 42, 4, [], [1108, 1106, 1107, 132]), (6, 1, 0, 0, 0, 1, [], [668, 666, 667, 136]), (6, 5, 0, 1, 23, 2, [], [913, 911, 912, 136]), (6, 2, 1, 0, 0, 2, [], [919, 917, 918, 136]), (6, 2, 1, 0, 0, 2, [], [967, 965, 966, 136]), (6, 3, 1, 1, 23, 1, [], [983, 981, 982, 136]), (6, 2, 0, 5, 121, 1, [], [935, 933, 934, 136]), (6, 3, 2, 0, 0, 2, [], [963, 962, 0, 136]), (6, 4, 0, 3, 68, 3, [], [941, 940, 29, 136]), (6, 6, 3, 1, 23, 3, [3], [950, 949, 30, 136]), (6, 6, 3, 2, 43, 3, [3], [955, 954, 31, 136]), (7, 1, 1, 0, 0, 1, [], [648, 646, 647, 130]), (7, 2, 1, 0, 0, 2, [], [682, 680, 681, 130]), (7, 2, 0, 1, 20, 2, [], [644, 642, 643, 130]), (7, 1, 0, 0, 0, 1, [], [497, 495, 496, 130]), (7, 2, 0, 1, 26, 2, [], [652, 650, 651, 130]), (8, 3, 0, 0, 0, 2, [], [481, 479, 480, 128]), (8, 2, 1, 0, 0, 2, [], [505, 503, 504, 128])],
  [(9, 1, 0, 1, 23, 1, [], [302, 300, 301, 134]), (9, 2, 0, 1, 26, 2, [], [1169, 1167, 1168, 134]), (9, 1, 0, 1, 23, 1, [], [1037, 1035, 1036, 134]), (9, 2, 2, 0, 0, 2, [], [716, 714, 715, 134]), (9, 2, 1, 1, 21, 2, [], [743, 741, 742, 134]), (9, 4, 1, 0, 0, 2, [], [839, 837, 838, 134]), (9, 5, 2, 0, 0, 3, [], [751, 750, 17, 134]), (9, 4, 1, 1, 24, 2, [], [831, 829, 830, 134]), (9, 4, 1, 0, 0, 3, [], [727, 725, 726, 134]), (9, 4, 1, 1, 20, 2, [], [927, 925, 926, 134]), (9, 3, 1, 1, 21, 2, [], [900, 898, 899, 134]), (9, 2, 1, 0, 0, 2, [], [779, 778, 24, 134]), (9, 3, 1, 1, 21, 2, [], [959, 957, 958, 134]), (9, 7, 1, 3, 74, 3, [], [710, 708, 709, 134]), (9, 4, 1, 1, 24, 3, [], [720, 719, 12, 134]), (9, 2, 1, 0, 0, 2, [], [735, 734, 14, 134]), (9, 5, 1, 2, 50, 3, [], [739, 738, 15, 134]), (9, 7, 1, 1, 24, 5, [], [747, 746, 16, 134]), (9, 3, 1, 1, 24, 3, [], [755, 754, 18, 134]), (9, 4, 1, 1, 24, 4, [], [763, 762, 20, 134])],
  [(9, 4, 1, 1, 24, 4, [], [767, 766, 21, 134]), (9, 3, 1, 1, 24, 3, [], [771, 770, 22, 134]), (9, 4, 1, 1, 21, 3, [], [775, 774, 23, 134]), (9, 4, 1, 1, 21, 3, [], [783, 782, 25, 134]), (9, 2, 1, 0, 0, 2, [], [759, 758, 19, 134]), (9, 5, 0, 0, 0, 4, [], [731, 730, 13, 134]), (10, 6, 1, 1, 22, 6, [], [477, 475, 476, 127]), (10, 2, 1, 0, 0, 2, [], [485, 483, 484, 127]), (10, 1, 1, 8, 174, 1, [], [489, 487, 488, 127]), (10, 2, 1, 0, 0, 2, [], [673, 671, 672, 127]), (10, 5, 1, 1, 21, 3, [], [677, 675, 676, 127]), (10, 2, 1, 6, 142, 2, [], [693, 691, 692, 127]), (10, 2, 1, 6, 144, 2, [], [788, 786, 787, 127]), (10, 2, 1, 5, 121, 2, [], [804, 802, 803, 127]), (10, 3, 1, 5, 121, 3, [], [809, 807, 808, 127]), (10, 4, 1, 5, 121, 3, [], [817, 815, 816, 127]), (10, 6, 1, 5, 121, 3, [], [822, 820, 821, 127]), (10, 3, 1, 5, 121, 3, [], [827, 825, 826, 127]), (10, 4, 1, 5, 121, 3, [], [835, 833, 834, 127]), (10, 6, 1, 5, 121, 3, [], [843, 841, 842, 127])],
  [(10, 5, 1, 5, 121, 2, [], [847, 845, 846, 127]), (10, 2, 1, 6, 145, 2, [], [857, 855, 856, 127]), (10, 3, 1, 6, 145, 2, [], [865, 863, 864, 127]), (10, 4, 1, 5, 121, 4, [], [869, 867, 868, 127]), (10, 6, 1, 5, 121, 3, [], [877, 875, 876, 127]), (10, 3, 1, 5, 121, 3, [], [881, 879, 880, 127]), (10, 4, 1, 5, 121, 3, [], [888, 886, 887, 127]), (10, 5, 1, 5, 121, 2, [], [892, 890, 891, 127]), (10, 3, 1, 5, 121, 3, [], [896, 894, 895, 127]), (10, 5, 1, 5, 121, 2, [], [904, 902, 903, 127]), (10, 5, 1, 5, 121, 4, [], [909, 907, 908, 127]), (10, 6, 1, 5, 121, 4, [], [923, 921, 922, 127]), (10, 3, 1, 6, 142, 3, [], [931, 929, 930, 127]), (10, 2, 1, 6, 142, 2, [], [971, 969, 970, 127]), (10, 3, 1, 6, 142, 1, [], [975, 973, 974, 127]), (10, 1, 1, 6, 142, 1, [], [979, 977, 978, 127]), (10, 4, 1, 5, 121, 3, [], [987, 985, 986, 127]), (10, 2, 1, 5, 121, 2, [], [1009, 1007, 1008, 127]), (10, 2, 1, 5, 121, 2, [], [1013, 1011, 1012, 127]), (10, 3, 1, 5, 121, 3, [], [1021, 1019, 1020, 127])],
  [(10, 2, 1, 5, 121, 2, [], [1025, 1023, 1024, 127]), (10, 3, 1, 5, 121, 1, [], [1029, 1027, 1028, 127]), (10, 5, 1, 5, 121, 4, [], [1033, 1031, 1032, 127]), (10, 5, 1, 6, 147, 5, [], [1041, 1039, 1040, 127]), (10, 4, 1, 6, 147, 4, [], [1061, 1059, 1060, 127]), (10, 8, 1, 6, 147, 3, [], [1065, 1063, 1064, 127]), (10, 5, 1, 5, 124, 1, [], [1069, 1067, 1068, 127]), (10, 7, 1, 6, 144, 1, [], [1079, 1077, 1078, 127]), (10, 5, 1, 5, 124, 2, [], [1083, 1081, 1082, 127]), (10, 4, 1, 5, 124, 2, [], [1113, 1111, 1112, 127]), (10, 3, 1, 5, 124, 2, [], [1117, 1115, 1116, 127]), (10, 5, 1, 5, 124, 2, [], [1121, 1119, 1120, 127]), (10, 2, 1, 6, 145, 2, [], [1125, 1123, 1124, 127]), (10, 5, 1, 6, 145, 1, [], [1133, 1131, 1132, 127]), (10, 2, 1, 5, 124, 2, [], [1137, 1135, 1136, 127]), (10, 7, 1, 5, 124, 3, [], [1145, 1143, 1144, 127]), (10, 9, 1, 6, 148, 3, [], [1158, 1156, 1157, 127]), (10, 5, 1, 6, 148, 5, [], [1178, 1176, 1177, 127]), (10, 4, 3, 6, 150, 4, [], [1182, 1180, 1181, 127]), (10, 3, 3, 6, 150, 3, [], [1199, 1197, 1198, 127])],
  [(10, 5, 1, 6, 142, 5, [], [1203, 1201, 1202, 127]), (10, 1, 1, 4, 83, 1, [], [1213, 1211, 1212, 127]), (10, 2, 1, 4, 83, 1, [], [1217, 1215, 1216, 127]), (10, 4, 1, 5, 126, 3, [], [1221, 1219, 1220, 127]), (10, 6, 1, 5, 126, 4, [], [1237, 1235, 1236, 127]), (10, 2, 1, 1, 22, 2, [], [1241, 1239, 1240, 127]), (10, 2, 1, 2, 47, 2, [], [1249, 1247, 1248, 127]), (10, 2, 1, 4, 83, 2, [], [1253, 1251, 1252, 127]), (10, 4, 1, 2, 46, 4, [], [1257, 1255, 1256, 127]), (10, 6, 1, 2, 45, 4, [3], [1266, 1264, 1265, 127]), (10, 8, 1, 1, 26, 6, [], [1278, 1276, 1277, 127]), (10, 1, 2, 0, 0, 1, [], [796, 795, 27, 127]), (10, 2, 2, 1, 20, 2, [], [792, 791, 26, 127]), (10, 1, 2, 0, 0, 1, [], [812, 811, 0, 127]), (10, 2, 2, 1, 20, 2, [], [872, 871, 0, 127]), (10, 1, 2, 0, 0, 1, [], [884, 883, 0, 127]), (10, 1, 2, 0, 0, 1, [], [1090, 1089, 0, 127]), (10, 1, 2, 0, 0, 1, [], [1224, 1223, 0, 127]), (10, 2, 2, 1, 20, 2, [], [1161, 1160, 0, 127]), (10, 4, 2, 2, 41, 4, [], [1045, 1044, 35, 127])],
  [(10, 3, 2, 1, 20, 3, [], [1186, 1185, 44, 127]), (10, 1, 1, 0, 0, 1, [], [723, 722, 0, 127]), (10, 3, 1, 0, 0, 1, [], [1245, 1244, 47, 127]), (10, 1, 0, 3, 63, 1, [], [659, 658, 11, 127]), (10, 5, 1, 5, 121, 4, [], [861, 860, 28, 127]), (10, 5, 1, 4, 100, 3, [], [1073, 1072, 37, 127]), (10, 2, 1, 5, 124, 2, [], [1129, 1128, 41, 127]), (10, 2, 1, 2, 53, 2, [], [1087, 1086, 38, 127]), (10, 5, 2, 4, 100, 3, [], [1104, 1103, 40, 127]), (10, 5, 1, 4, 100, 2, [], [1141, 1140, 42, 127]), (10, 8, 1, 5, 121, 6, [], [1165, 1164, 43, 127]), (10, 10, 3, 5, 121, 3, [4, 7], [1191, 1190, 45, 127]), (10, 4, 3, 0, 0, 1, [1], [1194, 1193, 0, 127]), (10, 12, 3, 1, 21, 3, [0, 2, 5, 7, 10], [1151, 1150, 0, 127]), (10, 7, 1, 4, 100, 2, [1, 3], [1229, 1228, 46, 127]), (11, 6, 2, 0, 0, 3, [0, 2, 4], [1473, 1472, 0, 138]), (11, 3, 1, 0, 0, 1, [], [1925, 1924, 0, 138]), (11, 2, 1, 0, 0, 2, [], [1624, 1623, 0, 138]), (11, 3, 1, 1, 25, 2, [], [1469, 1467, 1468, 138]), (11, 3, 1, 1, 25, 2, [], [1477, 1475, 1476, 138])],
  [(11, 1, 2, 0, 0, 1, [], [1668, 1667, 82, 138]), (11, 1, 1, 0, 0, 1, [], [1584, 1583, 63, 138]), (11, 2, 2, 1, 25, 2, [], [1580, 1579, 62, 138]), (11, 3, 2, 1, 25, 2, [1], [1680, 1679, 84, 138]), (11, 2, 2, 1, 25, 1, [0], [1695, 1694, 0, 138]), (11, 1, 2, 1, 25, 1, [], [1759, 1758, 0, 138]), (11, 1, 2, 1, 25, 1, [], [1775, 1774, 0, 138]), (11, 3, 1, 0, 0, 3, [], [1589, 1588, 64, 138]), (11, 2, 1, 0, 0, 2, [], [1569, 1568, 0, 138]), (11, 2, 1, 0, 0, 2, [], [1572, 1571, 0, 138]), (11, 7, 1, 0, 0, 6, [], [1481, 1479, 1480, 138]), (11, 2, 1, 1, 25, 2, [], [1485, 1483, 1484, 138]), (11, 2, 1, 0, 0, 2, [], [1501, 1500, 50, 138]), (11, 2, 0, 1, 25, 1, [], [1497, 1496, 49, 138]), (11, 1, 2, 0, 0, 1, [], [1511, 1510, 51, 138]), (11, 2, 0, 1, 20, 2, [], [1538, 1537, 57, 138]), (11, 4, 2, 4, 85, 2, [], [1532, 1531, 56, 138]), (11, 3, 2, 5, 108, 2, [], [1528, 1527, 55, 138]), (11, 2, 0, 6, 130, 2, [], [1524, 1523, 54, 138]), (11, 4, 1, 2, 46, 3, [], [1547, 1546, 59, 138])],
  [(11, 4, 1, 7, 151, 4, [], [1543, 1542, 58, 138]), (11, 2, 1, 0, 0, 2, [], [1489, 1487, 1488, 138]), (11, 1, 1, 5, 108, 1, [], [1556, 1555, 61, 138]), (11, 1, 0, 8, 174, 1, [], [1519, 1518, 53, 138]), (11, 4, 0, 6, 128, 1, [], [1552, 1551, 60, 138]), (11, 1, 0, 9, 194, 1, [], [1515, 1514, 52, 138]), (11, 2, 1, 10, 214, 1, [], [1493, 1491, 1492, 138]), (11, 3, 1, 2, 46, 3, [], [1576, 1574, 1575, 138]), (11, 5, 0, 0, 0, 5, [], [1605, 1604, 67, 138]), (11, 2, 0, 1, 24, 1, [], [1601, 1600, 66, 138]), (11, 3, 1, 0, 0, 3, [], [1632, 1631, 73, 138]), (11, 4, 2, 0, 0, 2, [], [1640, 1639, 75, 138]), (11, 6, 1, 1, 22, 5, [], [1628, 1627, 72, 138]), (11, 6, 1, 1, 23, 5, [], [1636, 1635, 74, 138]), (11, 5, 1, 2, 48, 2, [], [1621, 1620, 71, 138]), (11, 7, 2, 0, 0, 5, [], [1660, 1659, 80, 138]), (11, 6, 1, 1, 26, 4, [], [1656, 1655, 79, 138]), (11, 4, 0, 2, 51, 2, [], [1652, 1651, 78, 138]), (11, 4, 0, 1, 22, 3, [], [1648, 1647, 77, 138]), (11, 2, 1, 0, 0, 2, [], [1664, 1663, 81, 138])],
  [(11, 5, 0, 3, 74, 2, [], [1644, 1643, 76, 138]), (11, 3, 0, 0, 0, 2, [], [1617, 1616, 70, 138]), (11, 2, 0, 1, 22, 1, [], [1613, 1612, 69, 138]), (11, 2, 0, 4, 98, 1, [], [1609, 1608, 68, 138]), (11, 1, 2, 5, 119, 1, [], [1597, 1596, 65, 138]), (11, 2, 2, 6, 139, 2, [], [1676, 1675, 83, 138]), (11, 3, 2, 7, 160, 3, [], [1692, 1691, 85, 138]), (11, 3, 2, 1, 21, 3, [], [1704, 1703, 87, 138]), (11, 3, 1, 2, 43, 3, [], [1700, 1699, 86, 138]), (11, 3, 1, 2, 43, 3, [], [1712, 1711, 88, 138]), (11, 2, 1, 1, 22, 2, [], [1922, 1921, 110, 138]), (11, 2, 1, 6, 139, 2, [], [1593, 1591, 1592, 138]), (11, 4, 1, 7, 160, 2, [], [1672, 1670, 1671, 138]), (11, 2, 1, 7, 160, 2, [], [1684, 1682, 1683, 138]), (11, 3, 1, 8, 182, 3, [], [1688, 1686, 1687, 138]), (11, 3, 1, 8, 182, 3, [], [1708, 1706, 1707, 138]), (11, 5, 1, 8, 182, 3, [], [1716, 1714, 1715, 138]), (11, 5, 1, 2, 43, 3, [], [1724, 1723, 89, 138]), (11, 3, 1, 8, 182, 3, [], [1720, 1718, 1719, 138]), (11, 5, 1, 8, 182, 3, [], [1728, 1726, 1727, 138])],
  [(11, 5, 1, 3, 65, 3, [], [1736, 1735, 90, 138]), (11, 3, 1, 8, 182, 3, [], [1732, 1730, 1731, 138]), (11, 4, 1, 7, 160, 2, [], [1740, 1738, 1739, 138]), (11, 3, 1, 2, 43, 2, [], [1748, 1747, 91, 138]), (11, 2, 1, 6, 139, 2, [], [1744, 1742, 1743, 138]), (11, 3, 1, 6, 139, 2, [], [1752, 1750, 1751, 138]), (11, 4, 1, 0, 0, 4, [], [1764, 1763, 92, 138]), (11, 5, 1, 0, 0, 3, [], [1780, 1779, 93, 138]), (11, 4, 1, 8, 182, 4, [], [1756, 1754, 1755, 138]), (11, 5, 1, 8, 182, 3, [], [1768, 1766, 1767, 138]), (11, 3, 1, 7, 160, 3, [], [1772, 1770, 1771, 138]), (11, 3, 1, 7, 160, 3, [], [1784, 1782, 1783, 138]), (11, 4, 1, 7, 160, 2, [], [1788, 1786, 1787, 138]), (11, 4, 1, 1, 24, 3, [], [1796, 1795, 94, 138]), (11, 3, 1, 7, 160, 3, [], [1792, 1790, 1791, 138]), (11, 4, 1, 7, 160, 2, [], [1800, 1798, 1799, 138]), (11, 5, 0, 1, 23, 2, [], [1809, 1808, 95, 138]), (11, 4, 1, 8, 182, 4, [], [1805, 1803, 1804, 138]), (11, 8, 1, 8, 182, 4, [], [1813, 1811, 1812, 138]), (11, 7, 0, 3, 65, 2, [], [1825, 1824, 97, 138])],
  [(11, 5, 2, 0, 0, 3, [], [1829, 1828, 98, 138]), (11, 3, 2, 6, 139, 1, [], [1821, 1820, 96, 138]), (11, 3, 1, 1, 24, 2, [], [1837, 1836, 99, 138]), (11, 3, 1, 7, 161, 3, [], [1817, 1815, 1816, 138]), (11, 2, 1, 7, 161, 2, [], [1833, 1831, 1832, 138]), (11, 3, 1, 7, 161, 1, [], [1841, 1839, 1840, 138]), (11, 6, 1, 7, 161, 1, [], [1845, 1843, 1844, 138]), (11, 5, 1, 3, 65, 3, [], [1869, 1868, 104, 138]), (11, 3, 0, 0, 0, 3, [], [1861, 1860, 102, 138]), (11, 3, 1, 4, 89, 2, [], [1865, 1864, 103, 138]), (11, 3, 0, 5, 111, 2, [], [1857, 1856, 101, 138]), (11, 2, 2, 7, 160, 2, [], [1853, 1852, 100, 138]), (11, 2, 1, 6, 133, 2, [], [1877, 1876, 105, 138]), (11, 3, 1, 8, 181, 3, [], [1849, 1847, 1848, 138]), (11, 2, 1, 7, 160, 2, [], [1873, 1871, 1872, 138]), (11, 4, 1, 8, 181, 2, [], [1881, 1879, 1880, 138]), (11, 3, 1, 8, 181, 3, [], [1885, 1883, 1884, 138]), (11, 4, 1, 8, 181, 2, [], [1889, 1887, 1888, 138]), (11, 2, 1, 7, 154, 1, [], [1893, 1891, 1892, 138]), (11, 6, 1, 2, 43, 4, [], [1901, 1900, 106, 138])],
  [(11, 4, 1, 8, 182, 4, [], [1897, 1895, 1896, 138]), (11, 5, 1, 3, 68, 3, [], [1929, 1928, 111, 138]), (11, 4, 1, 0, 0, 4, [], [1914, 1913, 108, 138]), (11, 5, 1, 4, 92, 5, [], [1918, 1917, 109, 138]), (11, 6, 1, 5, 116, 4, [], [1937, 1936, 112, 138]), (11, 3, 2, 7, 160, 3, [], [1909, 1908, 107, 138]), (11, 5, 1, 8, 182, 5, [], [1905, 1903, 1904, 138]), (11, 4, 1, 8, 182, 4, [], [1933, 1931, 1932, 138]), (11, 6, 1, 8, 182, 3, [], [1941, 1939, 1940, 138]), (11, 2, 0, 5, 119, 2, [], [1949, 1948, 113, 138]), (11, 4, 1, 6, 140, 1, [], [1945, 1943, 1944, 138]), (11, 4, 1, 0, 0, 2, [], [1957, 1956, 114, 138]), (11, 6, 1, 6, 140, 1, [], [1953, 1951, 1952, 138]), (11, 3, 3, 0, 0, 3, [], [1976, 1975, 117, 138]), (11, 3, 1, 2, 47, 2, [], [1969, 1968, 116, 138]), (11, 3, 2, 3, 65, 2, [], [1981, 1980, 118, 138]), (11, 4, 1, 6, 140, 2, [], [1965, 1964, 115, 138]), (11, 3, 1, 7, 163, 2, [], [1961, 1959, 1960, 138]), (11, 3, 1, 7, 163, 2, [], [1985, 1983, 1984, 138]), (11, 3, 1, 7, 163, 2, [], [1989, 1987, 1988, 138])],
  [(11, 4, 1, 5, 119, 2, [], [1993, 1991, 1992, 138]), (11, 2, 1, 7, 154, 2, [], [2001, 2000, 119, 138]), (11, 2, 1, 8, 175, 2, [], [1997, 1995, 1996, 138]), (11, 3, 1, 8, 175, 1, [], [2005, 2003, 2004, 138]), (11, 3, 1, 5, 119, 2, [], [2014, 2013, 120, 138]), (11, 2, 1, 6, 141, 2, [], [2009, 2007, 2008, 138]), (11, 3, 1, 0, 0, 1, [], [2021, 2020, 0, 138]), (11, 10, 3, 1, 21, 2, [0, 2, 4, 6, 8], [2027, 2026, 0, 138]), (11, 5, 3, 2, 50, 3, [0, 2], [2024, 2023, 0, 138]), (11, 7, 1, 6, 141, 3, [3], [2018, 2016, 2017, 138]), (11, 9, 1, 5, 119, 6, [], [2040, 2039, 122, 138]), (11, 3, 2, 1, 25, 3, [], [2036, 2035, 121, 138]), (11, 8, 1, 6, 147, 3, [], [2032, 2030, 2031, 138]), (11, 5, 1, 6, 147, 5, [], [2044, 2042, 2043, 138]), (11, 7, 0, 5, 119, 3, [4], [2058, 2057, 124, 138]), (11, 3, 2, 1, 25, 3, [], [2052, 2051, 123, 138]), (11, 4, 3, 6, 145, 4, [], [2048, 2046, 2047, 138]), (11, 3, 3, 6, 145, 3, [], [2062, 2060, 2061, 138]), (11, 4, 2, 1, 25, 3, [], [2070, 2069, 0, 138]), (11, 6, 1, 6, 139, 5, [], [2066, 2064, 2065, 138])],
  [(11, 1, 1, 1, 20, 1, [], [2074, 2072, 2073, 138]), (11, 2, 1, 1, 20, 1, [], [2078, 2076, 2077, 138]), (11, 7, 1, 5, 119, 2, [1, 3], [2090, 2089, 125, 138]), (11, 1, 2, 1, 25, 1, [], [2085, 2084, 0, 138]), (11, 4, 1, 6, 145, 3, [], [2082, 2080, 2081, 138]), (11, 6, 1, 6, 145, 4, [], [2099, 2097, 2098, 138]), (11, 4, 1, 1, 25, 2, [], [2104, 2102, 2103, 138]), (11, 1, 2, 1, 25, 1, [], [1972, 1971, 0, 138]), (11, 4, 3, 0, 0, 2, [0], [2116, 2115, 0, 138]), (11, 5, 1, 2, 45, 4, [], [2109, 2107, 2108, 138]), (11, 5, 1, 2, 45, 4, [3], [2113, 2111, 2112, 138]), (11, 7, 1, 2, 45, 6, [], [2120, 2118, 2119, 138]), (13, 1, 1, 0, 0, 1, [], [850, 849, 0, 146]), (12, 1, 1, 1, 20, 1, [], [542, 540, 541, 140]), (12, 2, 6, 3, 64, 2, [], [552, 550, 551, 140]), (12, 1, 5, 0, 0, 1, [], [546, 544, 545, 140]), (12, 1, 2, 0, 0, 1, [], [556, 554, 555, 140]), (12, 2, 0, 1, 22, 2, [], [562, 561, 0, 140]), (15, 2, 6, 2, 43, 2, [], [559, 558, 0, 141]), (18, 5, 0, 0, 0, 2, [1], [945, 944, 0, 135])],
  [(18, 4, 0, 0, 0, 2, [], [305, 304, 0, 135]), (19, 3, 1, 0, 0, 3, [], [567, 566, 0, 142]), (20, 4, 2, 11, 235, 1, [], [0, 0, 0, 126])]]
def px_me (k : Nat) : Nat × Nat × Nat × Nat × Nat × Nat × List Nat × List Nat := (px_mes.getD (k / 20) []).getD (k % 20) (0, 0, 0, 0, 0, 0, [], [])
def px_ow (k : Nat) := (px_me k).1
def px_ml (k : Nat) := (px_me k).2.1
def px_rt (k : Nat) := (px_me k).2.2.1
def px_nf (k : Nat) := (px_me k).2.2.2.1
def px_nl (k : Nat) := (px_me k).2.2.2.2.1
def px_na (k : Nat) := (px_me k).2.2.2.2.2.1
def px_ls (k : Nat) := (px_me k).2.2.2.2.2.2.1
def px_pw (k : Nat) := (px_me k).2.2.2.2.2.2.2
def px_NM : Nat := 343
def px_LAW : Nat := 342
def px_rty (r : Nat) : Option FieldType := match r with
  | 0 => none
  | 1 => some .int
  | 2 => some .boolean
  | 3 => some .long
  | 4 => some (.object "FrozenTrees$World")
  | 5 => some .byte
  | 6 => some .char
  | _ => some (.object "java/lang/String")
def px_lk {α : Type} (c : Nat) : List (Nat × α) → Option α
  | [] => none
  | (a, v) :: l => if a = c then some v else px_lk c l
def px_fl : List (List (Nat × Nat × Nat × Nat)) := [[],
  [(12, 1, 1, 352), (18, 1, 2, 353), (22, 1, 0, 351), (29, 1, 3, 354), (42, 7, 2, 212), (61, 9, 0, 308), (69, 1, 6, 359), (72, 1, 5, 357), (75, 1, 4, 355), (89, 9, 5, 321)],
  [(9, 2, 0, 418), (15, 2, 1, 420), (24, 2, 2, 422), (28, 9, 0, 307), (33, 2, 3, 424), (52, 9, 3, 314), (55, 9, 4, 317)],
  [(9, 3, 2, 180), (15, 3, 0, 177), (24, 3, 1, 178), (27, 3, 5, 184), (33, 3, 3, 182), (36, 7, 1, 208), (58, 7, 2, 211), (62, 7, 3, 215), (75, 7, 4, 219), (103, 3, 6, 185), (106, 3, 4, 183), (123, 8, 1, 164)],
  [(9, 4, 0, 247), (21, 4, 1, 250), (25, 4, 2, 252), (29, 4, 3, 255)],
  [(11, 5, 0, 273), (15, 5, 1, 274), (18, 5, 2, 275), (21, 5, 3, 276), (25, 4, 3, 254), (28, 4, 0, 248)],
  [(11, 6, 2, 386), (15, 6, 3, 387), (20, 6, 5, 389), (23, 6, 6, 390), (26, 6, 7, 391), (29, 6, 0, 384), (33, 6, 1, 385), (37, 6, 8, 392), (47, 6, 4, 388), (98, 9, 4, 318), (101, 9, 3, 315), (104, 9, 7, 325)],
  [(9, 7, 0, 207), (15, 7, 4, 218), (19, 7, 5, 221), (26, 7, 1, 210), (29, 7, 2, 213), (32, 7, 3, 216)],
  [(9, 8, 0, 161), (15, 8, 1, 163)],
  [(9, 9, 3, 313), (15, 9, 4, 316), (18, 9, 5, 320), (21, 9, 6, 323), (24, 9, 7, 324), (27, 9, 8, 327), (30, 9, 9, 329), (36, 9, 0, 306), (40, 9, 2, 312), (43, 9, 1, 310)],
  [(10, 10, 0, 437), (21, 10, 1, 438), (28, 10, 2, 439), (32, 10, 3, 440), (35, 10, 4, 441), (41, 10, 5, 442), (49, 10, 6, 443), (58, 10, 7, 444), (67, 10, 8, 445), (74, 10, 9, 446), (81, 10, 10, 447), (85, 10, 11, 448), (89, 8, 1, 162), (100, 3, 1, 179), (109, 7, 1, 209), (112, 3, 2, 181), (149, 9, 0, 309), (161, 9, 4, 319), (196, 9, 8, 328), (199, 9, 1, 311), (202, 9, 7, 326), (235, 2, 0, 419), (238, 2, 3, 425), (244, 2, 2, 423), (245, 2, 1, 421), (251, 9, 5, 322), (262, 1, 4, 356), (265, 1, 5, 358), (268, 1, 6, 360), (271, 7, 4, 220), (274, 7, 2, 214), (324, 7, 5, 222), (341, 7, 3, 217), (347, 7, 6, 223), (358, 4, 1, 251), (361, 4, 3, 256), (365, 4, 2, 253), (371, 4, 0, 249), (398, 5, 3, 277)],
  [(9, 11, 1, 1291), (13, 11, 2, 1292), (16, 11, 3, 1293), (20, 11, 4, 1294), (24, 11, 6, 1296), (27, 11, 13, 1303), (31, 11, 14, 1304), (34, 11, 15, 1305), (37, 11, 16, 1306), (40, 11, 17, 1307), (43, 11, 18, 1308), (46, 11, 19, 1309), (49, 11, 24, 1314), (52, 11, 25, 1315), (55, 11, 26, 1316), (58, 11, 28, 1318), (61, 11, 29, 1319), (64, 11, 30, 1320), (67, 11, 31, 1321), (70, 11, 32, 1322), (73, 11, 33, 1323), (76, 11, 34, 1324), (79, 11, 35, 1325), (82, 11, 36, 1326), (85, 11, 37, 1327), (88, 11, 38, 1328), (91, 11, 39, 1329), (94, 11, 40, 1330), (98, 11, 42, 1332), (101, 11, 44, 1334), (104, 11, 45, 1335), (107, 11, 50, 1340), (110, 11, 54, 1344), (113, 11, 55, 1345), (116, 11, 56, 1346), (120, 11, 57, 1347), (146, 11, 5, 1295), (149, 11, 7, 1297), (152, 11, 8, 1298), (159, 11, 9, 1299), (162, 11, 10, 1300), (173, 11, 11, 1301), (183, 11, 12, 1302), (276, 11, 20, 1310), (279, 11, 21, 1311), (292, 11, 22, 1312), (298, 11, 23, 1313), (316, 11, 27, 1317), (401, 11, 41, 1331), (419, 11, 43, 1333), (422, 11, 46, 1336), (484, 11, 47, 1337), (487, 11, 48, 1338), (493, 11, 49, 1339), (529, 11, 51, 1341), (533, 11, 52, 1342), (536, 11, 53, 1343)],
  [(9, 12, 0, 2122), (15, 12, 1, 2123)],
  [],
  [],
  [],
  [],
  [],
  [],
  [],
  []]
def px_flk (c i : Nat) : Option (Nat × Nat × Nat) := px_lk i (px_fl.getD c [])
def px_gsl : List (List (Nat × Nat × Nat)) := [[(15, 0, 626)],
  [],
  [],
  [],
  [],
  [],
  [],
  [],
  [],
  [],
  [(292, 1, 1146)],
  [],
  [(38, 2, 547), (1053, 3, 563)],
  [],
  [],
  [],
  [],
  [],
  [],
  [],
  []]
def px_gsk (c i : Nat) : Option (Nat × Nat) := px_lk i (px_gsl.getD c [])
def px_cl : List (List (Nat × Nat × Nat × Nat)) := [[(9, 1, 1, 1174), (19, 4, 1, 631), (23, 7, 1, 632), (27, 5, 1, 1207), (30, 6, 1, 1208)],
  [(26, 60, 0, 664), (33, 10, 0, 705), (36, 54, 0, 706), (45, 73, 0, 707), (49, 0, 4, 698), (54, 11, 0, 701), (58, 62, 0, 1050), (64, 332, 1, 1051), (78, 0, 5, 1052), (81, 15, 0, 1053), (85, 63, 0, 1057)],
  [(18, 340, 1, 992), (36, 18, 0, 993), (40, 19, 0, 998), (44, 161, 2, 997), (48, 20, 0, 1002)],
  [(19, 56, 0, 494), (30, 30, 0, 498), (39, 22, 0, 526), (43, 23, 0, 601), (48, 26, 0, 531), (54, 25, 0, 592), (64, 27, 0, 597), (67, 24, 0, 605), (71, 28, 0, 587), (78, 4, 1, 623), (84, 5, 1, 628), (87, 6, 1, 635), (90, 1, 1, 638), (92, 55, 0, 641), (95, 9, 1, 609), (99, 29, 0, 535), (109, 333, 0, 539), (114, 59, 0, 502), (119, 334, 0, 549), (126, 33, 1, 506), (130, 34, 1, 509), (133, 31, 0, 512), (136, 35, 1, 516), (139, 32, 0, 519), (142, 0, 5, 523)],
  [(15, 339, 1, 1262), (32, 38, 0, 1271)],
  [(36, 41, 0, 1097), (40, 64, 0, 1109)],
  [(41, 340, 1, 914), (50, 68, 0, 915), (56, 53, 0, 936), (62, 11, 0, 937), (68, 50, 0, 938), (72, 49, 1, 961), (76, 44, 0, 942), (80, 339, 1, 943), (83, 63, 0, 946), (87, 51, 0, 947), (91, 52, 0, 952), (94, 45, 0, 951), (107, 72, 0, 956), (110, 70, 0, 960)],
  [(22, 53, 0, 645), (35, 0, 3, 653)],
  [],
  [(33, 60, 0, 299), (46, 340, 1, 303), (52, 0, 3, 1170), (58, 63, 0, 713), (62, 66, 0, 748), (66, 161, 2, 721), (70, 71, 0, 776), (73, 2, 1, 711), (78, 3, 1, 712), (82, 74, 0, 717), (85, 75, 0, 732), (88, 76, 0, 736), (91, 78, 0, 752), (94, 79, 0, 760), (98, 80, 0, 764), (101, 81, 0, 768), (104, 68, 0, 724), (107, 82, 0, 772), (110, 83, 0, 780), (113, 85, 0, 728), (117, 64, 0, 740), (120, 77, 0, 744), (124, 84, 0, 756), (127, 0, 5, 784)],
  [(93, 58, 0, 478), (97, 21, 0, 490), (103, 57, 0, 649), (106, 163, 0, 656), (115, 53, 0, 678), (119, 54, 0, 679), (123, 2, 1, 683), (128, 4, 1, 686), (131, 3, 1, 687), (135, 12, 0, 694), (138, 152, 0, 789), (142, 13, 0, 797), (145, 11, 0, 805), (152, 153, 1, 810), (155, 64, 0, 813), (158, 63, 0, 818), (164, 161, 1, 823), (167, 67, 0, 828), (170, 65, 0, 836), (173, 332, 1, 848), (178, 151, 0, 793), (182, 164, 0, 858), (186, 154, 1, 870), (190, 68, 0, 873), (193, 155, 1, 882), (205, 70, 0, 897), (208, 0, 4, 905), (213, 44, 0, 910), (217, 45, 0, 916), (220, 69, 0, 924), (223, 48, 0, 932), (226, 46, 0, 964), (229, 47, 0, 980), (232, 16, 0, 988), (241, 17, 0, 1014), (248, 62, 0, 1034), (254, 159, 0, 1042), (258, 14, 0, 1046), (277, 165, 0, 1070), (280, 167, 0, 1084), (283, 168, 0, 1101), (286, 166, 0, 1126), (289, 169, 0, 1138), (297, 173, 1, 1149), (301, 158, 1, 1159), (304, 170, 0, 1162), (308, 160, 0, 1183), (313, 171, 0, 1188), (317, 172, 1, 1192), (321, 8, 1, 1204), (327, 0, 1, 1171), (331, 55, 0, 1209), (334, 157, 1, 1222), (337, 174, 0, 1226), (344, 162, 0, 1242), (351, 156, 1, 1088), (354, 36, 0, 1258), (362, 37, 0, 1267), (368, 39, 0, 1279), (375, 0, 3, 1283), (382, 10, 0, 660), (385, 43, 0, 665), (386, 60, 0, 1074), (388, 73, 0, 1075), (391, 40, 0, 1091), (394, 42, 0, 1105), (399, 61, 0, 1166), (404, 0, 6, 1152)],
  [(128, 175, 1, 1471), (132, 181, 0, 1581), (136, 180, 0, 1665), (155, 192, 0, 1498), (177, 0, 5, 1507), (186, 194, 0, 1508), (189, 333, 0, 1533), (194, 334, 0, 1534), (198, 196, 0, 1529), (202, 193, 0, 1494), (205, 197, 0, 1525), (208, 195, 0, 1535), (212, 198, 0, 1521), (216, 199, 0, 1544), (243, 200, 0, 1540), (249, 202, 0, 1553), (252, 188, 1, 1567), (255, 189, 1, 1570), (258, 203, 0, 1516), (261, 204, 0, 1549), (264, 205, 0, 1512), (267, 182, 0, 1577), (273, 187, 0, 1586), (282, 208, 0, 1602), (286, 210, 0, 1629), (289, 211, 0, 1637), (295, 177, 1, 1622), (301, 212, 0, 1625), (305, 213, 0, 1633), (308, 215, 0, 1657), (312, 216, 0, 1653), (319, 218, 0, 1645), (322, 217, 0, 1649), (324, 219, 0, 1661), (327, 221, 0, 1614), (330, 222, 0, 1610), (333, 214, 0, 1618), (336, 220, 0, 1641), (339, 209, 0, 1598), (342, 223, 0, 1606), (345, 224, 0, 1594), (348, 183, 0, 1677), (352, 225, 0, 1673), (355, 184, 1, 1693), (358, 227, 0, 1701), (362, 176, 1, 1923), (365, 226, 0, 1689), (368, 228, 0, 1697), (371, 229, 0, 1709), (374, 237, 0, 1721), (377, 240, 0, 1733), (380, 243, 0, 1745), (383, 185, 1, 1757), (386, 246, 0, 1761), (389, 186, 1, 1773), (392, 247, 0, 1777), (395, 253, 0, 1793), (398, 0, 4, 1801), (404, 256, 0, 1806), (407, 259, 0, 1822), (410, 260, 0, 1826), (413, 261, 0, 1818), (416, 262, 0, 1834), (425, 267, 0, 1866), (428, 268, 0, 1858), (431, 269, 0, 1862), (434, 270, 0, 1854), (437, 271, 0, 1850), (440, 272, 0, 1874), (443, 279, 0, 1898), (446, 230, 0, 1919), (449, 282, 0, 1911), (452, 281, 0, 1926), (455, 283, 0, 1915), (458, 285, 0, 1906), (463, 284, 0, 1934), (466, 289, 0, 1946), (469, 291, 0, 1954), (472, 327, 1, 1970), (475, 293, 0, 1973), (481, 294, 0, 1966), (490, 295, 0, 1978), (496, 296, 0, 1962), (499, 301, 0, 1998), (504, 304, 0, 2011), (507, 0, 6, 2028), (511, 307, 1, 2025), (515, 306, 1, 2019), (518, 308, 1, 2022), (522, 311, 0, 2033), (525, 310, 0, 2037), (541, 315, 0, 2049), (546, 314, 0, 2055), (551, 318, 1, 2068), (567, 323, 1, 2083), (570, 322, 0, 2087), (578, 328, 1, 2114)],
  [(335, 335, 0, 543), (492, 336, 0, 553), (495, 338, 1, 557), (1059, 341, 1, 565)],
  [],
  [],
  [(9, 337, 1, 560)],
  [(414, 337, 1, 577)],
  [],
  [],
  [],
  [(13, 86, 0, 474), (17, 190, 0, 1478), (18, 87, 0, 482), (22, 191, 0, 1482), (23, 88, 0, 486), (27, 206, 0, 1490), (28, 89, 0, 670), (31, 201, 0, 1486), (32, 90, 0, 674), (36, 207, 0, 1573), (37, 91, 0, 690), (40, 231, 0, 1590), (41, 92, 0, 785), (44, 232, 0, 1669), (45, 93, 0, 801), (48, 233, 0, 1681), (49, 94, 0, 806), (52, 234, 0, 1685), (53, 95, 0, 814), (56, 235, 0, 1705), (57, 96, 0, 819), (60, 236, 0, 1713), (61, 97, 0, 824), (64, 238, 0, 1717), (65, 98, 0, 832), (68, 239, 0, 1725), (69, 99, 0, 840), (72, 241, 0, 1729), (73, 100, 0, 844), (76, 242, 0, 1737), (77, 101, 0, 854), (80, 244, 0, 1741), (81, 102, 0, 862), (84, 245, 0, 1749), (85, 103, 0, 866), (89, 248, 0, 1753), (90, 104, 0, 874), (93, 249, 0, 1765), (94, 105, 0, 878), (97, 250, 0, 1769), (98, 106, 0, 885), (101, 251, 0, 1781), (102, 107, 0, 889), (105, 252, 0, 1785), (106, 108, 0, 893), (109, 254, 0, 1789), (110, 109, 0, 901), (113, 255, 0, 1797), (114, 110, 0, 906), (117, 257, 0, 1802), (118, 111, 0, 920), (121, 258, 0, 1810), (122, 112, 0, 928), (125, 263, 0, 1814), (126, 113, 0, 968), (129, 264, 0, 1830), (130, 114, 0, 972), (133, 265, 0, 1838), (134, 115, 0, 976), (137, 266, 0, 1842), (138, 116, 0, 984), (141, 273, 0, 1846), (142, 117, 0, 1006), (145, 274, 0, 1870), (146, 118, 0, 1010), (149, 275, 0, 1878), (150, 119, 0, 1018), (153, 276, 0, 1882), (154, 120, 0, 1022), (157, 277, 0, 1886), (158, 121, 0, 1026), (161, 278, 0, 1890), (162, 122, 0, 1030), (165, 280, 0, 1894), (166, 123, 0, 1038), (170, 286, 0, 1902), (171, 124, 0, 1058), (174, 287, 0, 1930), (175, 125, 0, 1062), (178, 288, 0, 1938), (179, 126, 0, 1066), (182, 290, 0, 1942), (183, 127, 0, 1076), (186, 292, 0, 1950), (187, 128, 0, 1080), (190, 297, 0, 1958), (191, 129, 0, 1110), (194, 298, 0, 1982), (195, 130, 0, 1114), (198, 299, 0, 1986), (199, 131, 0, 1118), (202, 300, 0, 1990), (203, 132, 0, 1122), (206, 302, 0, 1994), (207, 133, 0, 1130), (210, 303, 0, 2002), (211, 134, 0, 1134), (214, 305, 0, 2006), (215, 135, 0, 1142), (218, 309, 0, 2015), (219, 136, 0, 1155), (222, 312, 0, 2029), (223, 137, 0, 1175), (226, 313, 0, 2041), (227, 138, 0, 1179), (231, 316, 0, 2045), (232, 139, 0, 1196), (236, 317, 0, 2059), (237, 140, 0, 1200), (240, 319, 0, 2063), (241, 141, 0, 1210), (244, 320, 0, 2071), (245, 142, 0, 1214), (248, 321, 0, 2075), (249, 143, 0, 1218), (252, 324, 0, 2079), (253, 144, 0, 1234), (256, 325, 0, 2096), (257, 145, 0, 1238), (260, 326, 0, 2101), (261, 146, 0, 1246), (264, 178, 0, 1466), (265, 147, 0, 1250), (268, 179, 0, 1474), (269, 148, 0, 1254), (272, 329, 0, 2106), (275, 149, 0, 1263), (279, 330, 0, 2110), (280, 150, 0, 1275), (283, 331, 0, 2117)]]
def px_clk (c i : Nat) : Option (Nat × Nat × Nat) := px_lk i (px_cl.getD c [])
def px_nest : List (Nat × Nat × Nat) := [(2, 44, 161), (9, 66, 161)]
def px_kcl : List (List (Nat × Int32 × Nat)) := [[],
  [],
  [],
  [],
  [],
  [],
  [],
  [],
  [],
  [],
  [(381, (2000000000 : Int32), 1225)],
  [(97, (37230 : Int32), 1290), (176, (99999 : Int32), 1506)],
  [],
  [(265, (1431655765 : Int32), 851), (266, (858993459 : Int32), 852), (267, (252645135 : Int32), 853)],
  [],
  [],
  [],
  [],
  [],
  [],
  []]
def px_kck (c i : Nat) : Option (Int32 × Nat) := px_lk i (px_kcl.getD c [])
def px_kjl : List (List (Nat × Int64 × Nat)) := [[],
  [],
  [],
  [],
  [],
  [(32, (15 : Int64), 1095), (34, (-1 : Int64), 1096)],
  [],
  [],
  [],
  [],
  [(295, (720 : Int64), 1148), (311, (-2 : Int64), 1187), (402, (10 : Int64), 1195), (408, (1103515245 : Int64), 1230), (410, (12345 : Int64), 1231), (412, (2147483648 : Int64), 1232), (414, (65536 : Int64), 1233)],
  [(126, (2 : Int64), 1470), (140, (15 : Int64), 1696), (142, (7 : Int64), 1760), (144, (199 : Int64), 1776), (165, (97 : Int64), 1502), (167, (122 : Int64), 1503), (169, (48 : Int64), 1504), (171, (57 : Int64), 1505), (271, (3 : Int64), 1585), (461, (40 : Int64), 1910), (479, (-1 : Int64), 1977), (502, (32767 : Int64), 2010), (539, (6 : Int64), 2053), (544, (-2 : Int64), 2054), (549, (9 : Int64), 2067), (555, (1103515245 : Int64), 2091), (557, (12345 : Int64), 2092), (559, (2147483648 : Int64), 2093), (561, (65536 : Int64), 2094), (563, (10 : Int64), 2095), (565, (2000000000 : Int64), 2086), (574, (20 : Int64), 2100), (576, (4 : Int64), 2105)],
  [],
  [],
  [],
  [],
  [],
  [],
  [],
  [],
  [(273, (4294967295 : Int64), 2121)]]
def px_kjk (c i : Nat) : Option (Int64 × Nat) := px_lk i (px_kjl.getD c [])
def px_ksl : List (List (Nat × Nat × Nat)) := [[(33, 0, 612), (35, 1, 613), (37, 2, 614), (39, 3, 615), (41, 4, 616), (43, 5, 617), (45, 6, 618), (47, 7, 619), (49, 8, 620), (51, 9, 621), (53, 10, 622)],
  [],
  [],
  [(46, 11, 530), (52, 12, 591), (60, 13, 596)],
  [],
  [],
  [],
  [],
  [],
  [],
  [],
  [(219, 0, 1557), (221, 1, 1558), (223, 2, 1559), (225, 3, 1560), (227, 4, 1561), (229, 5, 1562), (231, 6, 1563), (233, 7, 1564), (235, 8, 1565), (237, 9, 1566), (239, 11, 1520), (241, 12, 1539), (247, 13, 1548)],
  [],
  [],
  [],
  [],
  [],
  [],
  [],
  [],
  []]
def px_ksk (c i : Nat) : Option (Nat × Nat) := px_lk i (px_ksl.getD c [])
def px_txt : List String := ["fork", "lead", "exit", "open", "pipe", "copy", "close", "write", "read", "touch", "", "system", "law", "odds"]
def px_str : List (List Int32) := [[102, 111, 114, 107], [108, 101, 97, 100], [101, 120, 105, 116], [111, 112, 101, 110], [112, 105, 112, 101], [99, 111, 112, 121], [99, 108, 111, 115, 101], [119, 114, 105, 116, 101], [114, 101, 97, 100], [116, 111, 117, 99, 104], [], [115, 121, 115, 116, 101, 109], [108, 97, 119], [111, 100, 100, 115]]
def px_shl : List (Nat ⊕ (Nat × Nat)) := [.inl 10, .inl 8, .inr (0, 900), .inl 3, .inl 7, .inr (0, 70), .inl 7, .inr (0, 70), .inr (4, 3), .inl 7, .inr (0, 70), .inl 7, .inr (0, 70), .inl 7, .inr (0, 70), .inr (5, 4), .inl 4, .inr (1, 60), .inl 4, .inr (1, 60), .inl 4, .inr (1, 60), .inl 4, .inr (1, 60), .inl 5, .inr (0, 20), .inr (0, 20), .inr (0, 20), .inl 1, .inl 9, .inr (0, 16), .inr (0, 16), .inr (0, 16), .inr (0, 128), .inr (0, 200), .inr (0, 200), .inr (0, 200), .inr (0, 70), .inl 6, .inr (0, 200), .inr (0, 120), .inr (6, 71), .inr (0, 71), .inr (0, 71), .inl 2, .inr (0, 16), .inr (0, 15), .inl 9, .inr (0, 16), .inr (0, 16), .inr (0, 16), .inr (0, 128), .inr (0, 200), .inr (0, 200), .inr (0, 200), .inr (0, 64), .inl 11, .inr (0, 285), .inr (0, 855), .inr (3, 3), .inr (2, 900), .inr (0, 5), .inr (0, 285), .inr (0, 72), .inr (0, 72), .inr (0, 72), .inr (0, 72), .inr (3, 72), .inr (0, 16), .inr (0, 16), .inr (0, 128), .inr (0, 200), .inr (0, 200), .inr (0, 72), .inr (0, 72), .inr (0, 72), .inr (0, 73), .inr (0, 73), .inr (0, 1168), .inr (0, 1168), .inr (0, 9344), .inr (0, 14600), .inr (0, 200), .inr (0, 120), .inr (0, 37230), .inr (0, 16), .inr (0, 16), .inr (0, 64), .inr (0, 4), .inr (0, 4), .inr (1, 240), .inr (1, 60), .inr (1, 45), .inr (1, 45), .inr (1, 45), .inr (1, 45), .inr (1, 45), .inr (1, 45), .inr (1, 45), .inr (1, 45), .inr (1, 45), .inr (1, 45), .inr (1, 45), .inr (1, 45), .inr (1, 45), .inr (1, 45), .inr (1, 45), .inr (1, 45), .inr (1, 45), .inr (1, 45), .inr (1, 45), .inr (1, 45), .inr (1, 45), .inr (1, 45), .inr (1, 45), .inr (1, 45), .inr (1, 45), .inr (1, 45), .inr (1, 45), .inr (1, 45), .inr (1, 45), .inr (1, 45), .inr (1, 45), .inr (1, 45), .inr (1, 45), .inr (1, 45), .inr (1, 45), .inr (1, 45), .inr (1, 45), .inr (1, 45), .inr (1, 45), .inr (1, 45), .inr (1, 45), .inr (1, 45), .inr (1, 45), .inr (1, 45), .inr (1, 45), .inr (1, 45), .inr (1, 45), .inr (1, 45), .inr (1, 45), .inr (1, 45), .inr (1, 45), .inr (1, 45), .inr (1, 45), .inr (1, 45), .inr (1, 45), .inr (1, 45), .inr (1, 45), .inr (1, 45), .inr (1, 45), .inr (1, 45), .inr (1, 45), .inr (1, 45), .inr (1, 45), .inr (1, 45), .inr (1, 45), .inr (1, 45), .inr (1, 45), .inr (1, 45), .inr (1, 45), .inr (1, 45), .inr (1, 45)]
def px_NP : Nat := 163
def px_rfl : List (List Nat) := [[1, 3, 4, 6, 8, 15, 24, 28, 38, 44, 47, 55], [2], [], [1], [5], [], [7], [], [9, 11, 13], [10], [], [12], [], [14], [], [16, 18, 20, 22], [17], [], [19], [], [21], [], [23], [], [25, 26, 27], [], [], [], [4, 29, 37], [0, 0, 0, 30, 31, 32, 33, 34, 35, 36], [], [], [], [], [], [], [], [], [28, 4, 39, 40, 0, 41, 42, 43], [], [], [92, 93, 94, 95, 96, 97, 98, 99, 100, 101, 102, 103, 104, 105, 106, 107, 108, 109, 110, 111, 112, 113, 114, 115, 116, 117, 118, 119, 120, 121, 122, 123, 124, 125, 126, 127, 128, 129, 130, 131, 132, 133, 134, 135, 136, 137, 138, 139, 140, 141, 142, 143, 144, 145, 146, 147, 148, 149, 150, 151, 152, 153, 154, 155, 156, 157, 158, 159, 160, 161, 162], [], [], [45, 46], [], [], [0, 0, 0, 48, 49, 50, 51, 52, 53, 54], [], [], [], [], [], [], [], [], [0, 57, 58, 59, 60, 0, 61, 0, 0, 0, 0, 0, 0, 0, 62, 63, 64, 65, 66, 67, 0, 0, 0, 0, 68, 69, 70, 0, 71, 72, 73, 74, 75, 76, 77, 78, 79, 80, 81, 82, 83, 0, 84, 0, 85, 86, 0, 0, 0, 0, 87, 0, 0, 0, 88, 89, 90, 91], [], [], [], [], [], [], [], [], [], [], [], [], [], [], [], [], [], [], [], [], [], [], [], [], [], [], [], [], [], [], [], [], [], [], [], [], [], [], [], [], [], [], [], [], [], [], [], [], [], [], [], [], [], [], [], [], [], [], [], [], [], [], [], [], [], [], [], [], [], [], [], [], [], [], [], [], [], [], [], [], [], [], [], [], [], [], [], [], [], [], [], [], [], [], [], [], [], [], [], [], [], [], [], [], [], []]
