/-! Printed by wip/whole/gen.py: classes, fields, methods. -/
def x_T0 : u_T := fun k => match k with
  | 0 => ("SessionHost$Journal", "latest", "[I", true)
  | 1 => ("SessionHost$Journal", "count", "I", false)
  | _ => ("SessionHost$Journal", "instancesMade", "I", false)
def x_t0 : Nat → FieldType := fun k => match k with
  | 0 => .array (.int)
  | 1 => .int
  | _ => .int
def x_T1 : u_T := fun k => match k with
  | 0 => ("SessionHost$Clock", "now", "I", false)
  | _ => ("SessionHost$Clock", "uses", "I", false)
def x_t1 : Nat → FieldType := fun k => match k with
  | 0 => .int
  | _ => .int
def x_T2 : u_T := fun k => match k with
  | _ => ("SessionHost$ExceptionTypes", "marks", "[I", true)
def x_t2 : Nat → FieldType := fun k => match k with
  | _ => .array (.int)
def x_T3 : u_T := fun k => match k with
  | 0 => ("java/util/AbstractList", "modCount", "I", false)
  | 1 => ("java/util/ArrayList", "elementData", "[Ljava/lang/Object;", false)
  | _ => ("java/util/ArrayList", "size", "I", false)
def x_t3 : Nat → FieldType := fun k => match k with
  | 0 => .int
  | 1 => .array (.object "java/lang/Object")
  | _ => .int
def x_T4 : u_T := fun k => match k with
  | 0 => ("SessionHost$Caller", "number", "I", true)
  | 1 => ("SessionHost$Caller", "targets", "[LSessionHost$Target;", true)
  | 2 => ("SessionHost$Caller", "instances", "[I", true)
  | 3 => ("SessionHost$Caller", "modes", "[I", true)
  | 4 => ("SessionHost$Caller", "depth", "I", false)
  | 5 => ("SessionHost$Caller", "lineTarget", "LSessionHost$Target;", false)
  | 6 => ("SessionHost$Caller", "lineMode", "I", false)
  | 7 => ("SessionHost$Caller", "waitsSince", "I", false)
  | 8 => ("SessionHost$Caller", "latestResult", "I", false)
  | _ => ("SessionHost$Caller", "work", "LSessionHost$Task;", false)
def x_t4 : Nat → FieldType := fun k => match k with
  | 0 => .int
  | 1 => .array (.object "SessionHost$Target")
  | 2 => .array (.int)
  | 3 => .array (.int)
  | 4 => .int
  | 5 => .object "SessionHost$Target"
  | 6 => .int
  | 7 => .int
  | 8 => .int
  | _ => .object "SessionHost$Task"
def x_T5 : u_T := fun k => match k with
  | 0 => ("SessionHost$Stateful", "sessions", "Ljava/util/ArrayList;", true)
  | 1 => ("SessionHost$Stateful", "size", "I", true)
  | 2 => ("SessionHost$Stateful", "timeout", "I", true)
  | _ => ("SessionHost$Stateful", "idle", "I", true)
def x_t5 : Nat → FieldType := fun k => match k with
  | 0 => .object "java/util/ArrayList"
  | 1 => .int
  | 2 => .int
  | _ => .int
def x_T6 : u_T := fun k => match k with
  | 0 => ("SessionHost$Target", "line", "Ljava/util/ArrayList;", true)
  | 1 => ("SessionHost$Target", "journal", "LSessionHost$Journal;", true)
  | 2 => ("SessionHost$Target", "timeout", "I", true)
  | 3 => ("SessionHost$Target", "modes", "I", true)
  | 4 => ("SessionHost$Pool", "size", "I", true)
  | 5 => ("SessionHost$Pool", "free", "[I", true)
  | 6 => ("SessionHost$Pool", "freeCount", "I", false)
  | _ => ("SessionHost$Pool", "total", "I", false)
def x_t6 : Nat → FieldType := fun k => match k with
  | 0 => .object "java/util/ArrayList"
  | 1 => .object "SessionHost$Journal"
  | 2 => .int
  | 3 => .int
  | 4 => .int
  | 5 => .array (.int)
  | 6 => .int
  | _ => .int
def x_T7 : u_T := fun k => match k with
  | 0 => ("SessionHost$Target", "line", "Ljava/util/ArrayList;", true)
  | 1 => ("SessionHost$Target", "journal", "LSessionHost$Journal;", true)
  | 2 => ("SessionHost$Target", "timeout", "I", true)
  | 3 => ("SessionHost$Target", "modes", "I", true)
  | 4 => ("SessionHost$Singleton", "needs", "Ljava/util/ArrayList;", true)
  | 5 => ("SessionHost$Singleton", "eager", "Z", true)
  | 6 => ("SessionHost$Singleton", "cannotBegin", "Z", true)
  | 7 => ("SessionHost$Singleton", "begun", "Z", false)
  | 8 => ("SessionHost$Singleton", "failed", "Z", false)
  | 9 => ("SessionHost$Singleton", "instance", "I", false)
  | 10 => ("SessionHost$Singleton", "methods", "I", false)
  | _ => ("SessionHost$Singleton", "writingMethods", "I", false)
def x_t7 : Nat → FieldType := fun k => match k with
  | 0 => .object "java/util/ArrayList"
  | 1 => .object "SessionHost$Journal"
  | 2 => .int
  | 3 => .int
  | 4 => .object "java/util/ArrayList"
  | 5 => .boolean
  | 6 => .boolean
  | 7 => .boolean
  | 8 => .boolean
  | 9 => .int
  | 10 => .int
  | _ => .int
def x_T8 : u_T := fun k => match k with
  | 0 => ("SessionHost$Target", "line", "Ljava/util/ArrayList;", true)
  | 1 => ("SessionHost$Target", "journal", "LSessionHost$Journal;", true)
  | 2 => ("SessionHost$Target", "timeout", "I", true)
  | 3 => ("SessionHost$Target", "modes", "I", true)
  | 4 => ("SessionHost$Session", "home", "LSessionHost$Stateful;", true)
  | 5 => ("SessionHost$Session", "clock", "LSessionHost$Clock;", true)
  | 6 => ("SessionHost$Session", "instance", "I", false)
  | 7 => ("SessionHost$Session", "place", "I", false)
  | 8 => ("SessionHost$Session", "inUse", "Z", false)
  | 9 => ("SessionHost$Session", "latestUse", "I", false)
  | _ => ("SessionHost$Session", "latestUseTime", "I", false)
def x_t8 : Nat → FieldType := fun k => match k with
  | 0 => .object "java/util/ArrayList"
  | 1 => .object "SessionHost$Journal"
  | 2 => .int
  | 3 => .int
  | 4 => .object "SessionHost$Stateful"
  | 5 => .object "SessionHost$Clock"
  | 6 => .int
  | 7 => .int
  | 8 => .boolean
  | 9 => .int
  | _ => .int
def x_T9 : u_T := fun k => match k with
  | 0 => ("SessionHost$Task", "target", "LSessionHost$Target;", true)
  | 1 => ("SessionHost$Task", "mode", "I", true)
  | 2 => ("SessionHost$Task", "wanted", "Z", true)
  | 3 => ("SessionHost$Task", "stage", "I", false)
  | 4 => ("SessionHost$Task", "noted", "Z", false)
  | _ => ("SessionHost$Task", "outcome", "I", false)
def x_t9 : Nat → FieldType := fun k => match k with
  | 0 => .object "SessionHost$Target"
  | 1 => .int
  | 2 => .boolean
  | 3 => .int
  | 4 => .boolean
  | _ => .int
def x_T10 : u_T := fun k => match k with
  | 0 => ("SessionHost", "journal", "LSessionHost$Journal;", true)
  | 1 => ("SessionHost", "clock", "LSessionHost$Clock;", true)
  | 2 => ("SessionHost", "types", "LSessionHost$ExceptionTypes;", true)
  | 3 => ("SessionHost", "callers", "[LSessionHost$Caller;", true)
  | 4 => ("SessionHost", "targets", "[LSessionHost$Target;", true)
  | 5 => ("SessionHost", "statefuls", "[LSessionHost$Stateful;", true)
  | 6 => ("SessionHost", "sessions", "Ljava/util/ArrayList;", true)
  | 7 => ("SessionHost", "tasks", "Ljava/util/ArrayList;", true)
  | 8 => ("SessionHost", "componentCount", "I", false)
  | _ => ("SessionHost", "phase", "I", false)
def x_t10 : Nat → FieldType := fun k => match k with
  | 0 => .object "SessionHost$Journal"
  | 1 => .object "SessionHost$Clock"
  | 2 => .object "SessionHost$ExceptionTypes"
  | 3 => .array (.object "SessionHost$Caller")
  | 4 => .array (.object "SessionHost$Target")
  | 5 => .array (.object "SessionHost$Stateful")
  | 6 => .object "java/util/ArrayList"
  | 7 => .object "java/util/ArrayList"
  | 8 => .int
  | _ => .int
def x_T11 : u_T := fun k => match k with
  | 0 => ("SessionHostModel", "phase", "I", false)
  | 1 => ("SessionHostModel", "now", "I", false)
  | 2 => ("SessionHostModel", "components", "I", false)
  | 3 => ("SessionHostModel", "kind", "[I", true)
  | 4 => ("SessionHostModel", "size", "[I", true)
  | 5 => ("SessionHostModel", "timeout", "[I", true)
  | 6 => ("SessionHostModel", "idle", "[I", true)
  | 7 => ("SessionHostModel", "needs", "[I", true)
  | 8 => ("SessionHostModel", "needCount", "[I", true)
  | 9 => ("SessionHostModel", "begun", "[I", true)
  | 10 => ("SessionHostModel", "only", "[I", true)
  | 11 => ("SessionHostModel", "order", "[I", true)
  | 12 => ("SessionHostModel", "orders", "I", false)
  | 13 => ("SessionHostModel", "todo", "[I", true)
  | 14 => ("SessionHostModel", "nextNeed", "[I", true)
  | 15 => ("SessionHostModel", "pool", "[I", true)
  | 16 => ("SessionHostModel", "cameBack", "[I", true)
  | 17 => ("SessionHostModel", "marks", "[I", true)
  | 18 => ("SessionHostModel", "sessions", "I", false)
  | 19 => ("SessionHostModel", "sComponent", "[I", true)
  | 20 => ("SessionHostModel", "sInstance", "[I", true)
  | 21 => ("SessionHostModel", "sState", "[I", true)
  | 22 => ("SessionHostModel", "sUsed", "[I", true)
  | 23 => ("SessionHostModel", "sClock", "[I", true)
  | 24 => ("SessionHostModel", "uses", "I", false)
  | 25 => ("SessionHostModel", "depth", "[I", true)
  | 26 => ("SessionHostModel", "mTarget", "[I", true)
  | 27 => ("SessionHostModel", "mInstance", "[I", true)
  | 28 => ("SessionHostModel", "mMode", "[I", true)
  | 29 => ("SessionHostModel", "line", "[I", true)
  | 30 => ("SessionHostModel", "lineMode", "[I", true)
  | 31 => ("SessionHostModel", "lineClock", "[I", true)
  | 32 => ("SessionHostModel", "lineOrder", "[I", true)
  | 33 => ("SessionHostModel", "waits", "I", false)
  | 34 => ("SessionHostModel", "latest", "[I", true)
  | 35 => ("SessionHostModel", "tasks", "I", false)
  | 36 => ("SessionHostModel", "tState", "[I", true)
  | 37 => ("SessionHostModel", "tTarget", "[I", true)
  | 38 => ("SessionHostModel", "tMode", "[I", true)
  | 39 => ("SessionHostModel", "tResult", "[I", true)
  | 40 => ("SessionHostModel", "tWanted", "[Z", true)
  | 41 => ("SessionHostModel", "tNoted", "[Z", true)
  | 42 => ("SessionHostModel", "job", "[I", true)
  | 43 => ("SessionHostModel", "instanceCount", "I", false)
  | 44 => ("SessionHostModel", "eventCount", "I", false)
  | _ => ("SessionHostModel", "log", "[I", true)
def x_t11 : Nat → FieldType := fun k => match k with
  | 0 => .int
  | 1 => .int
  | 2 => .int
  | 3 => .array (.int)
  | 4 => .array (.int)
  | 5 => .array (.int)
  | 6 => .array (.int)
  | 7 => .array (.int)
  | 8 => .array (.int)
  | 9 => .array (.int)
  | 10 => .array (.int)
  | 11 => .array (.int)
  | 12 => .int
  | 13 => .array (.int)
  | 14 => .array (.int)
  | 15 => .array (.int)
  | 16 => .array (.int)
  | 17 => .array (.int)
  | 18 => .int
  | 19 => .array (.int)
  | 20 => .array (.int)
  | 21 => .array (.int)
  | 22 => .array (.int)
  | 23 => .array (.int)
  | 24 => .int
  | 25 => .array (.int)
  | 26 => .array (.int)
  | 27 => .array (.int)
  | 28 => .array (.int)
  | 29 => .array (.int)
  | 30 => .array (.int)
  | 31 => .array (.int)
  | 32 => .array (.int)
  | 33 => .int
  | 34 => .array (.int)
  | 35 => .int
  | 36 => .array (.int)
  | 37 => .array (.int)
  | 38 => .array (.int)
  | 39 => .array (.int)
  | 40 => .array (.boolean)
  | 41 => .array (.boolean)
  | 42 => .array (.int)
  | 43 => .int
  | 44 => .int
  | _ => .array (.int)
def x_cl : List vw_C := [("SessionHost$Journal", x_T0, 3), ("SessionHost$Clock", x_T1, 2), ("SessionHost$ExceptionTypes", x_T2, 1), ("java/util/ArrayList", x_T3, 3), ("SessionHost$Caller", x_T4, 10), ("SessionHost$Stateful", x_T5, 4), ("SessionHost$Pool", x_T6, 8), ("SessionHost$Singleton", x_T7, 12), ("SessionHost$Session", x_T8, 11), ("SessionHost$Task", x_T9, 6), ("SessionHost", x_T10, 10), ("SessionHostModel", x_T11, 46)]
def x_ty : List FieldType := [.int, .boolean, .object "SessionHost$Caller", .object "SessionHost$Target", .object "SessionHost$Stateful", .object "java/lang/Object"]
def x_ao : List String := ["SessionHost$Caller", "SessionHost$Target", "SessionHost$Stateful", "java/lang/Object"]
def x_nc : List (String × String) := [("SessionHost", "SessionHost$Singleton"), ("SessionHost$Journal", "SessionHost$Singleton"), ("SessionHost$Clock", "SessionHost$Singleton"), ("SessionHost$ExceptionTypes", "SessionHost$Singleton"), ("java/util/ArrayList", "SessionHost$Singleton"), ("SessionHost$Caller", "SessionHost$Singleton"), ("SessionHostModel", "SessionHost$Singleton"), ("SessionHost$Stateful", "SessionHost$Singleton"), ("SessionHost$Pool", "SessionHost$Singleton"), ("SessionHost$Session", "SessionHost$Singleton"), ("SessionHost$Task", "SessionHost$Singleton"), ("SessionHost", "SessionHost$Pool"), ("SessionHost$Journal", "SessionHost$Pool"), ("SessionHost$Clock", "SessionHost$Pool"), ("SessionHost$ExceptionTypes", "SessionHost$Pool"), ("java/util/ArrayList", "SessionHost$Pool"), ("SessionHost$Caller", "SessionHost$Pool"), ("SessionHostModel", "SessionHost$Pool"), ("SessionHost$Stateful", "SessionHost$Pool"), ("SessionHost$Singleton", "SessionHost$Pool"), ("SessionHost$Session", "SessionHost$Pool"), ("SessionHost$Task", "SessionHost$Pool")]
def x_df (c : Nat) : List Value := match c with
  | 0 => [.null, .int 0, .int 0]
  | 1 => [.int 0, .int 0]
  | 2 => [.null]
  | 3 => [.int 0, .null, .int 0]
  | 4 => [.int 0, .null, .null, .null, .int 0, .null, .int 0, .int 0, .int 0, .null]
  | 5 => [.null, .int 0, .int 0, .int 0]
  | 6 => [.null, .null, .int 0, .int 0, .int 0, .null, .int 0, .int 0]
  | 7 => [.null, .null, .int 0, .int 0, .null, .int 0, .int 0, .int 0, .int 0, .int 0, .int 0, .int 0]
  | 8 => [.null, .null, .int 0, .int 0, .null, .null, .int 0, .int 0, .int 0, .int 0, .int 0]
  | 9 => [.null, .int 0, .int 0, .int 0, .int 0, .int 0]
  | 10 => [.null, .null, .null, .null, .null, .null, .null, .null, .int 0, .int 0]
  | 11 => [.int 0, .int 0, .int 0, .null, .null, .null, .null, .null, .null, .null, .null, .null, .int 0, .null, .null, .null, .null, .null, .int 0, .null, .null, .null, .null, .null, .int 0, .null, .null, .null, .null, .null, .null, .null, .null, .int 0, .null, .int 0, .null, .null, .null, .null, .null, .null, .null, .int 0, .int 0, .null]
  | _ => []
def x_mtl : List (MethodName × ByteArray × Nat × Option FieldType) := [
  (⟨"SessionHost", "<init>", "()V"⟩, prog_1_method_1_code, 2, none),
  (⟨"java/lang/Object", "<init>", "()V"⟩, object_method_1_code, 1, none),
  (⟨"SessionHost$Journal", "<init>", "()V"⟩, prog_5_method_1_code, 1, none),
  (⟨"SessionHost$Clock", "<init>", "()V"⟩, prog_3_method_1_code, 1, none),
  (⟨"SessionHost$ExceptionTypes", "<init>", "()V"⟩, prog_4_method_1_code, 1, none),
  (⟨"java/util/ArrayList", "<init>", "()V"⟩, prog_21_method_2_code, 1, none),
  (⟨"java/util/AbstractList", "<init>", "()V"⟩, prog_20_method_1_code, 1, none),
  (⟨"java/util/AbstractCollection", "<init>", "()V"⟩, prog_19_method_1_code, 1, none),
  (⟨"SessionHost$Caller", "<init>", "(I)V"⟩, prog_2_method_1_code, 2, none),
  (⟨"SessionHost", "component", "(IIII)I"⟩, prog_1_method_2_code, 6, some (.int)),
  (⟨"SessionHost", "isSizeOfKind", "(II)Z"⟩, prog_1_method_22_code, 2, some (.boolean)),
  (⟨"SessionHost$Stateful", "<init>", "(III)V"⟩, prog_9_method_1_code, 4, none),
  (⟨"SessionHost$Pool", "<init>", "(IILSessionHost$Journal;)V"⟩, prog_6_method_1_code, 4, none),
  (⟨"SessionHost$Target", "<init>", "(LSessionHost$Journal;II)V"⟩, prog_10_method_1_code, 4, none),
  (⟨"SessionHost$Singleton", "<init>", "(IILSessionHost$Journal;)V"⟩, prog_8_method_1_code, 4, none),
  (⟨"SessionHost", "depends", "(II)Z"⟩, prog_1_method_3_code, 5, some (.boolean)),
  (⟨"SessionHost", "singletonAt", "(I)LSessionHost$Singleton;"⟩, prog_1_method_25_code, 4, some (.object "SessionHost$Singleton")),
  (⟨"SessionHost", "targetAt", "(I)LSessionHost$Target;"⟩, prog_1_method_24_code, 2, some (.object "SessionHost$Target")),
  (⟨"SessionHost$Singleton", "needsDirectly", "(LSessionHost$Singleton;)Z"⟩, prog_8_method_2_code, 3, some (.boolean)),
  (⟨"java/util/ArrayList", "size", "()I"⟩, prog_21_method_8_code, 1, some (.int)),
  (⟨"java/util/ArrayList", "get", "(I)Ljava/lang/Object;"⟩, prog_21_method_20_code, 2, some (.object "java/lang/Object")),
  (⟨"java/util/Objects", "checkIndex", "(II)I"⟩, prog_25_method_17_code, 2, some (.int)),
  (⟨"jdk/internal/util/Preconditions", "checkIndex", "(IILjava/util/function/BiFunction;)I"⟩, prog_29_method_11_code, 3, some (.int)),
  (⟨"java/util/ArrayList", "elementData", "(I)Ljava/lang/Object;"⟩, prog_21_method_18_code, 2, some (.object "java/lang/Object")),
  (⟨"SessionHost$Singleton", "leadsTo", "(LSessionHost$Singleton;LSessionHost$Singleton;I)Z"⟩, prog_8_method_3_code, 4, some (.boolean)),
  (⟨"java/util/ArrayList", "add", "(Ljava/lang/Object;)Z"⟩, prog_21_method_25_code, 2, some (.boolean)),
  (⟨"java/util/ArrayList", "add", "(Ljava/lang/Object;[Ljava/lang/Object;I)V"⟩, prog_21_method_24_code, 4, none),
  (⟨"java/util/ArrayList", "grow", "()[Ljava/lang/Object;"⟩, prog_21_method_7_code, 1, some (.array (.object "java/lang/Object"))),
  (⟨"java/util/ArrayList", "grow", "(I)[Ljava/lang/Object;"⟩, prog_21_method_6_code, 4, some (.array (.object "java/lang/Object"))),
  (⟨"jdk/internal/util/ArraysSupport", "newLength", "(III)I"⟩, prog_28_method_27_code, 4, some (.int)),
  (⟨"java/lang/Math", "max", "(II)I"⟩, prog_17_method_65_code, 2, some (.int)),
  (⟨"jdk/internal/util/ArraysSupport", "hugeLength", "(II)I"⟩, prog_28_method_28_code, 3, some (.int)),
  (⟨"java/util/Arrays", "copyOf", "([Ljava/lang/Object;I)[Ljava/lang/Object;"⟩, prog_22_method_119_code, 2, some (.array (.object "java/lang/Object"))),
  (⟨"java/util/Arrays", "copyOf", "([Ljava/lang/Object;ILjava/lang/Class;)[Ljava/lang/Object;"⟩, prog_22_method_120_code, 4, some (.array (.object "java/lang/Object"))),
  (⟨"java/lang/Math", "min", "(II)I"⟩, prog_17_method_69_code, 2, some (.int)),
  (⟨"SessionHost", "application", "(IZ)Z"⟩, prog_1_method_4_code, 3, some (.boolean)),
  (⟨"SessionHost$ExceptionTypes", "mark", "(IZ)Z"⟩, prog_4_method_2_code, 3, some (.boolean)),
  (⟨"SessionHost", "start", "()I"⟩, prog_1_method_5_code, 3, some (.int)),
  (⟨"SessionHost$Singleton", "begin", "(I)V"⟩, prog_8_method_4_code, 4, none),
  (⟨"SessionHost$Journal", "newInstance", "()I"⟩, prog_5_method_3_code, 2, some (.int)),
  (⟨"SessionHost$Journal", "note", "(III)V"⟩, prog_5_method_2_code, 4, none),
  (⟨"SessionHost", "countBegun", "()I"⟩, prog_1_method_26_code, 4, some (.int)),
  (⟨"SessionHost", "create", "(I)I"⟩, prog_1_method_6_code, 5, some (.int)),
  (⟨"SessionHost$Session", "<init>", "(LSessionHost$Stateful;LSessionHost$Journal;LSessionHost$Clock;)V"⟩, prog_7_method_1_code, 4, none),
  (⟨"SessionHost$Session", "comeToBe", "()V"⟩, prog_7_method_2_code, 1, none),
  (⟨"SessionHost$Session", "markUsed", "()V"⟩, prog_7_method_3_code, 1, none),
  (⟨"SessionHost$Clock", "nextUse", "()I"⟩, prog_3_method_2_code, 1, some (.int)),
  (⟨"SessionHost", "settle", "()V"⟩, prog_1_method_30_code, 2, none),
  (⟨"SessionHost", "settleLine", "(LSessionHost$Target;)V"⟩, prog_1_method_31_code, 6, none),
  (⟨"java/util/ArrayList", "isEmpty", "()Z"⟩, prog_21_method_9_code, 1, some (.boolean)),
  (⟨"SessionHost$Pool", "judge", "(LSessionHost$Caller;IZ)I"⟩, prog_6_method_2_code, 4, some (.int)),
  (⟨"SessionHost$Session", "judge", "(LSessionHost$Caller;IZ)I"⟩, prog_7_method_4_code, 4, some (.int)),
  (⟨"SessionHost$Caller", "hasMethodIn", "(LSessionHost$Target;)Z"⟩, prog_2_method_5_code, 3, some (.boolean)),
  (⟨"SessionHost$Singleton", "judge", "(LSessionHost$Caller;IZ)I"⟩, prog_8_method_5_code, 5, some (.int)),
  (⟨"SessionHost$Caller", "writesIn", "(LSessionHost$Target;)Z"⟩, prog_2_method_6_code, 3, some (.boolean)),
  (⟨"SessionHost$Caller", "leaveLine", "()V"⟩, prog_2_method_9_code, 3, none),
  (⟨"java/util/ArrayList", "remove", "(I)Ljava/lang/Object;"⟩, prog_21_method_29_code, 4, some (.object "java/lang/Object")),
  (⟨"java/util/ArrayList", "fastRemove", "([Ljava/lang/Object;I)V"⟩, prog_21_method_39_code, 4, none),
  (⟨"SessionHost", "enter", "(LSessionHost$Caller;LSessionHost$Target;I)V"⟩, prog_1_method_28_code, 5, none),
  (⟨"SessionHost$Pool", "take", "(I)I"⟩, prog_6_method_3_code, 2, some (.int)),
  (⟨"SessionHost$Session", "take", "(I)I"⟩, prog_7_method_5_code, 2, some (.int)),
  (⟨"SessionHost$Singleton", "take", "(I)I"⟩, prog_8_method_6_code, 2, some (.int)),
  (⟨"SessionHost$Caller", "push", "(LSessionHost$Target;II)V"⟩, prog_2_method_7_code, 4, none),
  (⟨"SessionHost$Caller", "gets", "(I)V"⟩, prog_2_method_11_code, 2, none),
  (⟨"SessionHost$Task", "endWith", "(I)V"⟩, prog_11_method_5_code, 2, none),
  (⟨"SessionHost", "handOut", "(LSessionHost$Task;)V"⟩, prog_1_method_32_code, 3, none),
  (⟨"SessionHost$Task", "isWaiting", "()Z"⟩, prog_11_method_2_code, 1, some (.boolean)),
  (⟨"SessionHost", "freeWorker", "()LSessionHost$Caller;"⟩, prog_1_method_33_code, 2, some (.object "SessionHost$Caller")),
  (⟨"SessionHost", "makeCall", "(LSessionHost$Caller;LSessionHost$Target;I)I"⟩, prog_1_method_27_code, 6, some (.int)),
  (⟨"SessionHost$Caller", "joinLine", "(LSessionHost$Target;II)V"⟩, prog_2_method_8_code, 4, none),
  (⟨"SessionHost$Stateful", "putAwayBeyondSize", "()V"⟩, prog_9_method_3_code, 4, none),
  (⟨"SessionHost$Stateful", "countInMemory", "()I"⟩, prog_9_method_2_code, 3, some (.int)),
  (⟨"SessionHost$Stateful", "longestUnused", "()LSessionHost$Session;"⟩, prog_9_method_4_code, 4, some (.object "SessionHost$Session")),
  (⟨"SessionHost$Session", "putAway", "()V"⟩, prog_7_method_7_code, 1, none),
  (⟨"SessionHost", "call", "(III)I"⟩, prog_1_method_7_code, 7, some (.int)),
  (⟨"SessionHost", "callerAt", "(I)LSessionHost$Caller;"⟩, prog_1_method_23_code, 2, some (.object "SessionHost$Caller")),
  (⟨"SessionHost$Caller", "mayCall", "()Z"⟩, prog_2_method_3_code, 2, some (.boolean)),
  (⟨"SessionHost$Caller", "waits", "()Z"⟩, prog_2_method_2_code, 1, some (.boolean)),
  (⟨"SessionHost$Target", "hasMode", "(I)Z"⟩, prog_10_method_2_code, 2, some (.boolean)),
  (⟨"SessionHost", "finish", "(II)I"⟩, prog_1_method_8_code, 5, some (.int)),
  (⟨"SessionHost$Caller", "mayEnd", "()Z"⟩, prog_2_method_4_code, 1, some (.boolean)),
  (⟨"SessionHost", "endMethod", "(LSessionHost$Caller;I)I"⟩, prog_1_method_29_code, 8, some (.int)),
  (⟨"SessionHost$ExceptionTypes", "isApplication", "(I)Z"⟩, prog_4_method_3_code, 3, some (.boolean)),
  (⟨"SessionHost$Pool", "giveBack", "(IIIZ)V"⟩, prog_6_method_4_code, 5, none),
  (⟨"SessionHost$Session", "giveBack", "(IIIZ)V"⟩, prog_7_method_6_code, 5, none),
  (⟨"SessionHost$Session", "vanish", "(I)V"⟩, prog_7_method_10_code, 2, none),
  (⟨"SessionHost$Singleton", "giveBack", "(IIIZ)V"⟩, prog_8_method_7_code, 5, none),
  (⟨"SessionHost", "endIfNoMethodIsLeft", "()V"⟩, prog_1_method_36_code, 2, none),
  (⟨"SessionHost", "endAll", "()V"⟩, prog_1_method_37_code, 4, none),
  (⟨"SessionHost$Session", "retire", "()V"⟩, prog_7_method_9_code, 1, none),
  (⟨"SessionHost$Pool", "destroyAll", "()V"⟩, prog_6_method_5_code, 2, none),
  (⟨"SessionHost$Pool", "takeLowest", "()I"⟩, prog_6_method_6_code, 3, some (.int)),
  (⟨"SessionHost", "latestBegun", "()LSessionHost$Singleton;"⟩, prog_1_method_38_code, 4, some (.object "SessionHost$Singleton")),
  (⟨"SessionHost$Singleton", "destroy", "()V"⟩, prog_8_method_8_code, 1, none),
  (⟨"SessionHost", "tick", "(I)I"⟩, prog_1_method_9_code, 5, some (.int)),
  (⟨"SessionHost", "timeOutCallers", "()I"⟩, prog_1_method_34_code, 3, some (.int)),
  (⟨"SessionHost$Caller", "hasWaitedOut", "(I)Z"⟩, prog_2_method_10_code, 2, some (.boolean)),
  (⟨"SessionHost", "retireIdleSessions", "()I"⟩, prog_1_method_35_code, 3, some (.int)),
  (⟨"SessionHost$Session", "isIdleTooLong", "()Z"⟩, prog_7_method_8_code, 1, some (.boolean)),
  (⟨"SessionHost", "submit", "(IIZ)I"⟩, prog_1_method_10_code, 6, some (.int)),
  (⟨"SessionHost$Task", "<init>", "(LSessionHost$Target;IZ)V"⟩, prog_11_method_1_code, 4, none),
  (⟨"SessionHost", "cancel", "(I)I"⟩, prog_1_method_11_code, 2, some (.int)),
  (⟨"SessionHost$Task", "calledOff", "()I"⟩, prog_11_method_4_code, 1, some (.int)),
  (⟨"SessionHost", "shutdown", "()I"⟩, prog_1_method_12_code, 3, some (.int)),
  (⟨"SessionHost$Task", "dropIfWaiting", "()V"⟩, prog_11_method_3_code, 1, none),
  (⟨"SessionHost", "state", "(I)I"⟩, prog_1_method_13_code, 3, some (.int)),
  (⟨"SessionHost", "result", "(I)I"⟩, prog_1_method_14_code, 3, some (.int)),
  (⟨"SessionHost", "instance", "(I)I"⟩, prog_1_method_15_code, 3, some (.int)),
  (⟨"SessionHost", "session", "(I)I"⟩, prog_1_method_16_code, 3, some (.int)),
  (⟨"SessionHost", "task", "(I)I"⟩, prog_1_method_17_code, 2, some (.int)),
  (⟨"SessionHost$Task", "describe", "()I"⟩, prog_11_method_6_code, 2, some (.int)),
  (⟨"SessionHost", "instances", "(I)I"⟩, prog_1_method_18_code, 4, some (.int)),
  (⟨"SessionHost", "waiting", "(I)I"⟩, prog_1_method_19_code, 3, some (.int)),
  (⟨"SessionHost", "events", "()I"⟩, prog_1_method_20_code, 1, some (.int)),
  (⟨"SessionHost", "event", "(I)I"⟩, prog_1_method_21_code, 2, some (.int)),
  (⟨"SessionHost$Journal", "back", "(I)I"⟩, prog_5_method_4_code, 2, some (.int)),
  (⟨"SessionHostModel", "<init>", "()V"⟩, prog_13_method_1_code, 2, none),
  (⟨"SessionHostModel", "component", "(IIII)I"⟩, prog_13_method_4_code, 7, some (.int)),
  (⟨"SessionHostModel", "depends", "(II)Z"⟩, prog_13_method_7_code, 4, some (.boolean)),
  (⟨"SessionHostModel", "isSingleton", "(I)Z"⟩, prog_13_method_5_code, 2, some (.boolean)),
  (⟨"SessionHostModel", "below", "(I)I"⟩, prog_13_method_6_code, 6, some (.int)),
  (⟨"SessionHostModel", "application", "(IZ)Z"⟩, prog_13_method_8_code, 3, some (.boolean)),
  (⟨"SessionHostModel", "start", "()I"⟩, prog_13_method_11_code, 2, some (.int)),
  (⟨"SessionHostModel", "begin", "(I)V"⟩, prog_13_method_10_code, 6, none),
  (⟨"SessionHostModel", "fresh", "()I"⟩, prog_13_method_3_code, 2, some (.int)),
  (⟨"SessionHostModel", "note", "(III)V"⟩, prog_13_method_2_code, 4, none),
  (⟨"SessionHostModel", "create", "(I)I"⟩, prog_13_method_33_code, 3, some (.int)),
  (⟨"SessionHostModel", "use", "(I)V"⟩, prog_13_method_32_code, 2, none),
  (⟨"SessionHostModel", "settle", "()V"⟩, prog_13_method_31_code, 2, none),
  (⟨"SessionHostModel", "lines", "()V"⟩, prog_13_method_27_code, 6, none),
  (⟨"SessionHostModel", "firstIn", "(I)I"⟩, prog_13_method_19_code, 4, some (.int)),
  (⟨"SessionHostModel", "open", "(II)Z"⟩, prog_13_method_20_code, 4, some (.boolean)),
  (⟨"SessionHostModel", "componentOf", "(I)I"⟩, prog_13_method_13_code, 2, some (.int)),
  (⟨"SessionHostModel", "freeCell", "(I)I"⟩, prog_13_method_17_code, 4, some (.int)),
  (⟨"SessionHostModel", "instanceInUse", "(I)Z"⟩, prog_13_method_16_code, 5, some (.boolean)),
  (⟨"SessionHostModel", "pooled", "(I)I"⟩, prog_13_method_18_code, 4, some (.int)),
  (⟨"SessionHostModel", "methodsIn", "(IIII)I"⟩, prog_13_method_15_code, 8, some (.int)),
  (⟨"SessionHostModel", "give", "(II)V"⟩, prog_13_method_21_code, 3, none),
  (⟨"SessionHostModel", "enter", "(III)I"⟩, prog_13_method_24_code, 7, some (.int)),
  (⟨"SessionHostModel", "pooledInstance", "(I)I"⟩, prog_13_method_23_code, 5, some (.int)),
  (⟨"SessionHostModel", "work", "()V"⟩, prog_13_method_28_code, 3, none),
  (⟨"SessionHostModel", "attempt", "(III)I"⟩, prog_13_method_26_code, 6, some (.int)),
  (⟨"SessionHostModel", "answer", "(II)I"⟩, prog_13_method_22_code, 3, some (.int)),
  (⟨"SessionHostModel", "refuse", "(III)I"⟩, prog_13_method_25_code, 4, some (.int)),
  (⟨"SessionHostModel", "putAway", "(I)V"⟩, prog_13_method_30_code, 6, none),
  (⟨"SessionHostModel", "inMemory", "(I)I"⟩, prog_13_method_29_code, 4, some (.int)),
  (⟨"SessionHostModel", "call", "(III)I"⟩, prog_13_method_34_code, 5, some (.int)),
  (⟨"SessionHostModel", "isTarget", "(I)Z"⟩, prog_13_method_12_code, 2, some (.boolean)),
  (⟨"SessionHostModel", "isMode", "(II)Z"⟩, prog_13_method_14_code, 4, some (.boolean)),
  (⟨"SessionHostModel", "finish", "(II)I"⟩, prog_13_method_37_code, 6, some (.int)),
  (⟨"SessionHostModel", "isSystem", "(I)Z"⟩, prog_13_method_9_code, 4, some (.boolean)),
  (⟨"SessionHostModel", "leave", "(IIIZZ)V"⟩, prog_13_method_35_code, 8, none),
  (⟨"SessionHostModel", "quiet", "()Z"⟩, prog_13_method_36_code, 3, some (.boolean)),
  (⟨"SessionHostModel", "end", "()V"⟩, prog_13_method_40_code, 3, none),
  (⟨"SessionHostModel", "goAway", "(I)V"⟩, prog_13_method_38_code, 2, none),
  (⟨"SessionHostModel", "takeLeast", "(I)I"⟩, prog_13_method_39_code, 4, some (.int)),
  (⟨"SessionHostModel", "tick", "(I)I"⟩, prog_13_method_43_code, 4, some (.int)),
  (⟨"SessionHostModel", "lapse", "()I"⟩, prog_13_method_41_code, 4, some (.int)),
  (⟨"SessionHostModel", "fade", "()I"⟩, prog_13_method_42_code, 4, some (.int)),
  (⟨"SessionHostModel", "submit", "(IIZ)I"⟩, prog_13_method_44_code, 5, some (.int)),
  (⟨"SessionHostModel", "cancel", "(I)I"⟩, prog_13_method_45_code, 3, some (.int)),
  (⟨"SessionHostModel", "shutdown", "()I"⟩, prog_13_method_46_code, 3, some (.int)),
  (⟨"SessionHostModel", "state", "(I)I"⟩, prog_13_method_47_code, 2, some (.int)),
  (⟨"SessionHostModel", "result", "(I)I"⟩, prog_13_method_48_code, 2, some (.int)),
  (⟨"SessionHostModel", "instance", "(I)I"⟩, prog_13_method_49_code, 2, some (.int)),
  (⟨"SessionHostModel", "session", "(I)I"⟩, prog_13_method_50_code, 2, some (.int)),
  (⟨"SessionHostModel", "task", "(I)I"⟩, prog_13_method_51_code, 2, some (.int)),
  (⟨"SessionHostModel", "instances", "(I)I"⟩, prog_13_method_52_code, 2, some (.int)),
  (⟨"SessionHostModel", "waiting", "(I)I"⟩, prog_13_method_53_code, 4, some (.int)),
  (⟨"SessionHostModel", "events", "()I"⟩, prog_13_method_54_code, 1, some (.int)),
  (⟨"SessionHostModel", "event", "(I)I"⟩, prog_13_method_55_code, 2, some (.int))]
def x_mt (y : Nat) : MethodName × ByteArray × Nat × Option FieldType := x_mtl.getD y (⟨"", "", ""⟩, ⟨#[]⟩, 0, none)
def x_on (k : Nat) : String := match k with
  | 0 => "SessionHost"
  | 1 => "java/lang/Object"
  | 2 => "SessionHost$Journal"
  | 3 => "SessionHost$Clock"
  | 4 => "SessionHost$ExceptionTypes"
  | 5 => "java/util/ArrayList"
  | 6 => "java/util/AbstractList"
  | 7 => "java/util/AbstractCollection"
  | 8 => "SessionHost$Caller"
  | 9 => "SessionHost$Stateful"
  | 10 => "SessionHost$Pool"
  | 11 => "SessionHost$Target"
  | 12 => "SessionHost$Singleton"
  | 13 => "java/util/Objects"
  | 14 => "jdk/internal/util/Preconditions"
  | 15 => "jdk/internal/util/ArraysSupport"
  | 16 => "java/lang/Math"
  | 17 => "java/util/Arrays"
  | 18 => "SessionHost$Session"
  | 19 => "SessionHost$Task"
  | 20 => "SessionHostModel"
  | _ => ""
abbrev y_H_init : Nat := 0
abbrev y_Object_init : Nat := 1
abbrev y_Journal_init : Nat := 2
abbrev y_Clock_init : Nat := 3
abbrev y_ExceptionTypes_init : Nat := 4
abbrev y_ArrayList_init : Nat := 5
abbrev y_AbstractList_init : Nat := 6
abbrev y_AbstractCollection_init : Nat := 7
abbrev y_Caller_init : Nat := 8
abbrev y_H_component : Nat := 9
abbrev y_H_isSizeOfKind : Nat := 10
abbrev y_Stateful_init : Nat := 11
abbrev y_Pool_init : Nat := 12
abbrev y_Target_init : Nat := 13
abbrev y_Singleton_init : Nat := 14
abbrev y_H_depends : Nat := 15
abbrev y_H_singletonAt : Nat := 16
abbrev y_H_targetAt : Nat := 17
abbrev y_Singleton_needsDirectly : Nat := 18
abbrev y_ArrayList_size : Nat := 19
abbrev y_ArrayList_get : Nat := 20
abbrev y_Objects_checkIndex : Nat := 21
abbrev y_Preconditions_checkIndex : Nat := 22
abbrev y_ArrayList_elementData : Nat := 23
abbrev y_Singleton_leadsTo : Nat := 24
abbrev y_ArrayList_add : Nat := 25
abbrev y_ArrayList_add2 : Nat := 26
abbrev y_ArrayList_grow : Nat := 27
abbrev y_ArrayList_grow2 : Nat := 28
abbrev y_ArraysSupport_newLength : Nat := 29
abbrev y_Math_max : Nat := 30
abbrev y_ArraysSupport_hugeLength : Nat := 31
abbrev y_Arrays_copyOf : Nat := 32
abbrev y_Arrays_copyOf2 : Nat := 33
abbrev y_Math_min : Nat := 34
abbrev y_H_application : Nat := 35
abbrev y_ExceptionTypes_mark : Nat := 36
abbrev y_H_start : Nat := 37
abbrev y_Singleton_begin : Nat := 38
abbrev y_Journal_newInstance : Nat := 39
abbrev y_Journal_note : Nat := 40
abbrev y_H_countBegun : Nat := 41
abbrev y_H_create : Nat := 42
abbrev y_Session_init : Nat := 43
abbrev y_Session_comeToBe : Nat := 44
abbrev y_Session_markUsed : Nat := 45
abbrev y_Clock_nextUse : Nat := 46
abbrev y_H_settle : Nat := 47
abbrev y_H_settleLine : Nat := 48
abbrev y_ArrayList_isEmpty : Nat := 49
abbrev y_Pool_judge : Nat := 50
abbrev y_Session_judge : Nat := 51
abbrev y_Caller_hasMethodIn : Nat := 52
abbrev y_Singleton_judge : Nat := 53
abbrev y_Caller_writesIn : Nat := 54
abbrev y_Caller_leaveLine : Nat := 55
abbrev y_ArrayList_remove : Nat := 56
abbrev y_ArrayList_fastRemove : Nat := 57
abbrev y_H_enter : Nat := 58
abbrev y_Pool_take : Nat := 59
abbrev y_Session_take : Nat := 60
abbrev y_Singleton_take : Nat := 61
abbrev y_Caller_push : Nat := 62
abbrev y_Caller_gets : Nat := 63
abbrev y_Task_endWith : Nat := 64
abbrev y_H_handOut : Nat := 65
abbrev y_Task_isWaiting : Nat := 66
abbrev y_H_freeWorker : Nat := 67
abbrev y_H_makeCall : Nat := 68
abbrev y_Caller_joinLine : Nat := 69
abbrev y_Stateful_putAwayBeyondSize : Nat := 70
abbrev y_Stateful_countInMemory : Nat := 71
abbrev y_Stateful_longestUnused : Nat := 72
abbrev y_Session_putAway : Nat := 73
abbrev y_H_call : Nat := 74
abbrev y_H_callerAt : Nat := 75
abbrev y_Caller_mayCall : Nat := 76
abbrev y_Caller_waits : Nat := 77
abbrev y_Target_hasMode : Nat := 78
abbrev y_H_finish : Nat := 79
abbrev y_Caller_mayEnd : Nat := 80
abbrev y_H_endMethod : Nat := 81
abbrev y_ExceptionTypes_isApplication : Nat := 82
abbrev y_Pool_giveBack : Nat := 83
abbrev y_Session_giveBack : Nat := 84
abbrev y_Session_vanish : Nat := 85
abbrev y_Singleton_giveBack : Nat := 86
abbrev y_H_endIfNoMethodIsLeft : Nat := 87
abbrev y_H_endAll : Nat := 88
abbrev y_Session_retire : Nat := 89
abbrev y_Pool_destroyAll : Nat := 90
abbrev y_Pool_takeLowest : Nat := 91
abbrev y_H_latestBegun : Nat := 92
abbrev y_Singleton_destroy : Nat := 93
abbrev y_H_tick : Nat := 94
abbrev y_H_timeOutCallers : Nat := 95
abbrev y_Caller_hasWaitedOut : Nat := 96
abbrev y_H_retireIdleSessions : Nat := 97
abbrev y_Session_isIdleTooLong : Nat := 98
abbrev y_H_submit : Nat := 99
abbrev y_Task_init : Nat := 100
abbrev y_H_cancel : Nat := 101
abbrev y_Task_calledOff : Nat := 102
abbrev y_H_shutdown : Nat := 103
abbrev y_Task_dropIfWaiting : Nat := 104
abbrev y_H_state : Nat := 105
abbrev y_H_result : Nat := 106
abbrev y_H_instance : Nat := 107
abbrev y_H_session : Nat := 108
abbrev y_H_task : Nat := 109
abbrev y_Task_describe : Nat := 110
abbrev y_H_instances : Nat := 111
abbrev y_H_waiting : Nat := 112
abbrev y_H_events : Nat := 113
abbrev y_H_event : Nat := 114
abbrev y_Journal_back : Nat := 115
abbrev y_R_init : Nat := 116
abbrev y_R_component : Nat := 117
abbrev y_R_depends : Nat := 118
abbrev y_R_isSingleton : Nat := 119
abbrev y_R_below : Nat := 120
abbrev y_R_application : Nat := 121
abbrev y_R_start : Nat := 122
abbrev y_R_begin : Nat := 123
abbrev y_R_fresh : Nat := 124
abbrev y_R_note : Nat := 125
abbrev y_R_create : Nat := 126
abbrev y_R_use : Nat := 127
abbrev y_R_settle : Nat := 128
abbrev y_R_lines : Nat := 129
abbrev y_R_firstIn : Nat := 130
abbrev y_R_open : Nat := 131
abbrev y_R_componentOf : Nat := 132
abbrev y_R_freeCell : Nat := 133
abbrev y_R_instanceInUse : Nat := 134
abbrev y_R_pooled : Nat := 135
abbrev y_R_methodsIn : Nat := 136
abbrev y_R_give : Nat := 137
abbrev y_R_enter : Nat := 138
abbrev y_R_pooledInstance : Nat := 139
abbrev y_R_work : Nat := 140
abbrev y_R_attempt : Nat := 141
abbrev y_R_answer : Nat := 142
abbrev y_R_refuse : Nat := 143
abbrev y_R_putAway : Nat := 144
abbrev y_R_inMemory : Nat := 145
abbrev y_R_call : Nat := 146
abbrev y_R_isTarget : Nat := 147
abbrev y_R_isMode : Nat := 148
abbrev y_R_finish : Nat := 149
abbrev y_R_isSystem : Nat := 150
abbrev y_R_leave : Nat := 151
abbrev y_R_quiet : Nat := 152
abbrev y_R_end : Nat := 153
abbrev y_R_goAway : Nat := 154
abbrev y_R_takeLeast : Nat := 155
abbrev y_R_tick : Nat := 156
abbrev y_R_lapse : Nat := 157
abbrev y_R_fade : Nat := 158
abbrev y_R_submit : Nat := 159
abbrev y_R_cancel : Nat := 160
abbrev y_R_shutdown : Nat := 161
abbrev y_R_state : Nat := 162
abbrev y_R_result : Nat := 163
abbrev y_R_instance : Nat := 164
abbrev y_R_session : Nat := 165
abbrev y_R_task : Nat := 166
abbrev y_R_instances : Nat := 167
abbrev y_R_waiting : Nat := 168
abbrev y_R_events : Nat := 169
abbrev y_R_event : Nat := 170
def x_good (w : Cond) : Bool := (w.onTables && w.keeps) || (match w with
  | .arrayClass _ => true
  | _ => false)
/-- the words that every method takes along -/
def x_ws : List Cond := lw_tbl.filter x_good
theorem x_in {w : Cond} (h : w ∈ lw_tbl) (hg : x_good w = true) : w ∈ x_ws := List.mem_filter.mpr ⟨h, hg⟩
theorem x_w {w : Cond} (i : Nat) (h : lw_tbl[i]? = some w) (hg : x_good w = true) : w ∈ x_ws := x_in (List.mem_of_getElem? h) hg
def x_clf (C : String) (T : u_T) (N : Nat) : Prop := (∀ w ∈ u_ws C T N, w ∈ x_ws) ∧ (∃ ty0 : Nat → FieldType, ∀ k, k < N → parseFieldDescriptor (T k).2.2.1 = some (ty0 k)) ∧ ∀ a, a < N → ∀ b, b < N → a ≠ b → (T a).2.1 ≠ (T b).2.1
theorem x_l0 : ∀ k, k < 3 → u_lay "SessionHost$Journal" x_T0 k ∈ x_ws := fun k hk => match k, hk with
  | 0, _ => x_w 99 (by decide +kernel) (by decide +kernel)
  | 1, _ => x_w 101 (by decide +kernel) (by decide +kernel)
  | 2, _ => x_w 103 (by decide +kernel) (by decide +kernel)
  | k + 3, h => absurd h (by omega)
theorem x_y0 : ∀ k, k < 3 → parseFieldDescriptor (x_T0 k).2.2.1 = some (x_t0 k) := by decide +kernel
theorem x_f0 : x_clf "SessionHost$Journal" x_T0 3 := ⟨fun w hw => by
    obtain ⟨k, hk, rfl⟩ := List.mem_map.mp hw
    exact x_l0 k (List.mem_range.mp hk), ⟨x_t0, x_y0⟩, by decide +kernel⟩
theorem x_l1 : ∀ k, k < 2 → u_lay "SessionHost$Clock" x_T1 k ∈ x_ws := fun k hk => match k, hk with
  | 0, _ => x_w 117 (by decide +kernel) (by decide +kernel)
  | 1, _ => x_w 119 (by decide +kernel) (by decide +kernel)
  | k + 2, h => absurd h (by omega)
theorem x_y1 : ∀ k, k < 2 → parseFieldDescriptor (x_T1 k).2.2.1 = some (x_t1 k) := by decide +kernel
theorem x_f1 : x_clf "SessionHost$Clock" x_T1 2 := ⟨fun w hw => by
    obtain ⟨k, hk, rfl⟩ := List.mem_map.mp hw
    exact x_l1 k (List.mem_range.mp hk), ⟨x_t1, x_y1⟩, by decide +kernel⟩
theorem x_l2 : ∀ k, k < 1 → u_lay "SessionHost$ExceptionTypes" x_T2 k ∈ x_ws := fun k hk => match k, hk with
  | 0, _ => x_w 129 (by decide +kernel) (by decide +kernel)
  | k + 1, h => absurd h (by omega)
theorem x_y2 : ∀ k, k < 1 → parseFieldDescriptor (x_T2 k).2.2.1 = some (x_t2 k) := by decide +kernel
theorem x_f2 : x_clf "SessionHost$ExceptionTypes" x_T2 1 := ⟨fun w hw => by
    obtain ⟨k, hk, rfl⟩ := List.mem_map.mp hw
    exact x_l2 k (List.mem_range.mp hk), ⟨x_t2, x_y2⟩, by decide +kernel⟩
theorem x_l3 : ∀ k, k < 3 → u_lay "java/util/ArrayList" x_T3 k ∈ x_ws := fun k hk => match k, hk with
  | 0, _ => x_w 161 (by decide +kernel) (by decide +kernel)
  | 1, _ => x_w 157 (by decide +kernel) (by decide +kernel)
  | 2, _ => x_w 159 (by decide +kernel) (by decide +kernel)
  | k + 3, h => absurd h (by omega)
theorem x_y3 : ∀ k, k < 3 → parseFieldDescriptor (x_T3 k).2.2.1 = some (x_t3 k) := by decide +kernel
theorem x_f3 : x_clf "java/util/ArrayList" x_T3 3 := ⟨fun w hw => by
    obtain ⟨k, hk, rfl⟩ := List.mem_map.mp hw
    exact x_l3 k (List.mem_range.mp hk), ⟨x_t3, x_y3⟩, by decide +kernel⟩
theorem x_l4 : ∀ k, k < 10 → u_lay "SessionHost$Caller" x_T4 k ∈ x_ws := fun k hk => match k, hk with
  | 0, _ => x_w 188 (by decide +kernel) (by decide +kernel)
  | 1, _ => x_w 190 (by decide +kernel) (by decide +kernel)
  | 2, _ => x_w 192 (by decide +kernel) (by decide +kernel)
  | 3, _ => x_w 194 (by decide +kernel) (by decide +kernel)
  | 4, _ => x_w 196 (by decide +kernel) (by decide +kernel)
  | 5, _ => x_w 198 (by decide +kernel) (by decide +kernel)
  | 6, _ => x_w 200 (by decide +kernel) (by decide +kernel)
  | 7, _ => x_w 202 (by decide +kernel) (by decide +kernel)
  | 8, _ => x_w 204 (by decide +kernel) (by decide +kernel)
  | 9, _ => x_w 206 (by decide +kernel) (by decide +kernel)
  | k + 10, h => absurd h (by omega)
theorem x_y4 : ∀ k, k < 10 → parseFieldDescriptor (x_T4 k).2.2.1 = some (x_t4 k) := by decide +kernel
theorem x_f4 : x_clf "SessionHost$Caller" x_T4 10 := ⟨fun w hw => by
    obtain ⟨k, hk, rfl⟩ := List.mem_map.mp hw
    exact x_l4 k (List.mem_range.mp hk), ⟨x_t4, x_y4⟩, by decide +kernel⟩
theorem x_l5 : ∀ k, k < 4 → u_lay "SessionHost$Stateful" x_T5 k ∈ x_ws := fun k hk => match k, hk with
  | 0, _ => x_w 261 (by decide +kernel) (by decide +kernel)
  | 1, _ => x_w 263 (by decide +kernel) (by decide +kernel)
  | 2, _ => x_w 265 (by decide +kernel) (by decide +kernel)
  | 3, _ => x_w 267 (by decide +kernel) (by decide +kernel)
  | k + 4, h => absurd h (by omega)
theorem x_y5 : ∀ k, k < 4 → parseFieldDescriptor (x_T5 k).2.2.1 = some (x_t5 k) := by decide +kernel
theorem x_f5 : x_clf "SessionHost$Stateful" x_T5 4 := ⟨fun w hw => by
    obtain ⟨k, hk, rfl⟩ := List.mem_map.mp hw
    exact x_l5 k (List.mem_range.mp hk), ⟨x_t5, x_y5⟩, by decide +kernel⟩
theorem x_l6 : ∀ k, k < 8 → u_lay "SessionHost$Pool" x_T6 k ∈ x_ws := fun k hk => match k, hk with
  | 0, _ => x_w 308 (by decide +kernel) (by decide +kernel)
  | 1, _ => x_w 310 (by decide +kernel) (by decide +kernel)
  | 2, _ => x_w 312 (by decide +kernel) (by decide +kernel)
  | 3, _ => x_w 314 (by decide +kernel) (by decide +kernel)
  | 4, _ => x_w 300 (by decide +kernel) (by decide +kernel)
  | 5, _ => x_w 302 (by decide +kernel) (by decide +kernel)
  | 6, _ => x_w 304 (by decide +kernel) (by decide +kernel)
  | 7, _ => x_w 306 (by decide +kernel) (by decide +kernel)
  | k + 8, h => absurd h (by omega)
theorem x_y6 : ∀ k, k < 8 → parseFieldDescriptor (x_T6 k).2.2.1 = some (x_t6 k) := by decide +kernel
theorem x_f6 : x_clf "SessionHost$Pool" x_T6 8 := ⟨fun w hw => by
    obtain ⟨k, hk, rfl⟩ := List.mem_map.mp hw
    exact x_l6 k (List.mem_range.mp hk), ⟨x_t6, x_y6⟩, by decide +kernel⟩
theorem x_l7 : ∀ k, k < 12 → u_lay "SessionHost$Singleton" x_T7 k ∈ x_ws := fun k hk => match k, hk with
  | 0, _ => x_w 353 (by decide +kernel) (by decide +kernel)
  | 1, _ => x_w 354 (by decide +kernel) (by decide +kernel)
  | 2, _ => x_w 355 (by decide +kernel) (by decide +kernel)
  | 3, _ => x_w 356 (by decide +kernel) (by decide +kernel)
  | 4, _ => x_w 337 (by decide +kernel) (by decide +kernel)
  | 5, _ => x_w 339 (by decide +kernel) (by decide +kernel)
  | 6, _ => x_w 341 (by decide +kernel) (by decide +kernel)
  | 7, _ => x_w 343 (by decide +kernel) (by decide +kernel)
  | 8, _ => x_w 345 (by decide +kernel) (by decide +kernel)
  | 9, _ => x_w 347 (by decide +kernel) (by decide +kernel)
  | 10, _ => x_w 349 (by decide +kernel) (by decide +kernel)
  | 11, _ => x_w 351 (by decide +kernel) (by decide +kernel)
  | k + 12, h => absurd h (by omega)
theorem x_y7 : ∀ k, k < 12 → parseFieldDescriptor (x_T7 k).2.2.1 = some (x_t7 k) := by decide +kernel
theorem x_f7 : x_clf "SessionHost$Singleton" x_T7 12 := ⟨fun w hw => by
    obtain ⟨k, hk, rfl⟩ := List.mem_map.mp hw
    exact x_l7 k (List.mem_range.mp hk), ⟨x_t7, x_y7⟩, by decide +kernel⟩
theorem x_l8 : ∀ k, k < 11 → u_lay "SessionHost$Session" x_T8 k ∈ x_ws := fun k hk => match k, hk with
  | 0, _ => x_w 522 (by decide +kernel) (by decide +kernel)
  | 1, _ => x_w 523 (by decide +kernel) (by decide +kernel)
  | 2, _ => x_w 524 (by decide +kernel) (by decide +kernel)
  | 3, _ => x_w 525 (by decide +kernel) (by decide +kernel)
  | 4, _ => x_w 508 (by decide +kernel) (by decide +kernel)
  | 5, _ => x_w 510 (by decide +kernel) (by decide +kernel)
  | 6, _ => x_w 512 (by decide +kernel) (by decide +kernel)
  | 7, _ => x_w 514 (by decide +kernel) (by decide +kernel)
  | 8, _ => x_w 516 (by decide +kernel) (by decide +kernel)
  | 9, _ => x_w 518 (by decide +kernel) (by decide +kernel)
  | 10, _ => x_w 520 (by decide +kernel) (by decide +kernel)
  | k + 11, h => absurd h (by omega)
theorem x_y8 : ∀ k, k < 11 → parseFieldDescriptor (x_T8 k).2.2.1 = some (x_t8 k) := by decide +kernel
theorem x_f8 : x_clf "SessionHost$Session" x_T8 11 := ⟨fun w hw => by
    obtain ⟨k, hk, rfl⟩ := List.mem_map.mp hw
    exact x_l8 k (List.mem_range.mp hk), ⟨x_t8, x_y8⟩, by decide +kernel⟩
theorem x_l9 : ∀ k, k < 6 → u_lay "SessionHost$Task" x_T9 k ∈ x_ws := fun k hk => match k, hk with
  | 0, _ => x_w 784 (by decide +kernel) (by decide +kernel)
  | 1, _ => x_w 786 (by decide +kernel) (by decide +kernel)
  | 2, _ => x_w 788 (by decide +kernel) (by decide +kernel)
  | 3, _ => x_w 790 (by decide +kernel) (by decide +kernel)
  | 4, _ => x_w 792 (by decide +kernel) (by decide +kernel)
  | 5, _ => x_w 794 (by decide +kernel) (by decide +kernel)
  | k + 6, h => absurd h (by omega)
theorem x_y9 : ∀ k, k < 6 → parseFieldDescriptor (x_T9 k).2.2.1 = some (x_t9 k) := by decide +kernel
theorem x_f9 : x_clf "SessionHost$Task" x_T9 6 := ⟨fun w hw => by
    obtain ⟨k, hk, rfl⟩ := List.mem_map.mp hw
    exact x_l9 k (List.mem_range.mp hk), ⟨x_t9, x_y9⟩, by decide +kernel⟩
theorem x_l10 : ∀ k, k < 10 → u_lay "SessionHost" x_T10 k ∈ x_ws := fun k hk => match k, hk with
  | 0, _ => x_w 219 (by decide +kernel) (by decide +kernel)
  | 1, _ => x_w 221 (by decide +kernel) (by decide +kernel)
  | 2, _ => x_w 223 (by decide +kernel) (by decide +kernel)
  | 3, _ => x_w 225 (by decide +kernel) (by decide +kernel)
  | 4, _ => x_w 227 (by decide +kernel) (by decide +kernel)
  | 5, _ => x_w 229 (by decide +kernel) (by decide +kernel)
  | 6, _ => x_w 231 (by decide +kernel) (by decide +kernel)
  | 7, _ => x_w 233 (by decide +kernel) (by decide +kernel)
  | 8, _ => x_w 235 (by decide +kernel) (by decide +kernel)
  | 9, _ => x_w 237 (by decide +kernel) (by decide +kernel)
  | k + 10, h => absurd h (by omega)
theorem x_y10 : ∀ k, k < 10 → parseFieldDescriptor (x_T10 k).2.2.1 = some (x_t10 k) := by decide +kernel
theorem x_f10 : x_clf "SessionHost" x_T10 10 := ⟨fun w hw => by
    obtain ⟨k, hk, rfl⟩ := List.mem_map.mp hw
    exact x_l10 k (List.mem_range.mp hk), ⟨x_t10, x_y10⟩, by decide +kernel⟩
theorem x_l11 : ∀ k, k < 46 → u_lay "SessionHostModel" x_T11 k ∈ x_ws := fun k hk => match k, hk with
  | 0, _ => x_w 911 (by decide +kernel) (by decide +kernel)
  | 1, _ => x_w 913 (by decide +kernel) (by decide +kernel)
  | 2, _ => x_w 915 (by decide +kernel) (by decide +kernel)
  | 3, _ => x_w 917 (by decide +kernel) (by decide +kernel)
  | 4, _ => x_w 919 (by decide +kernel) (by decide +kernel)
  | 5, _ => x_w 921 (by decide +kernel) (by decide +kernel)
  | 6, _ => x_w 923 (by decide +kernel) (by decide +kernel)
  | 7, _ => x_w 925 (by decide +kernel) (by decide +kernel)
  | 8, _ => x_w 927 (by decide +kernel) (by decide +kernel)
  | 9, _ => x_w 929 (by decide +kernel) (by decide +kernel)
  | 10, _ => x_w 931 (by decide +kernel) (by decide +kernel)
  | 11, _ => x_w 933 (by decide +kernel) (by decide +kernel)
  | 12, _ => x_w 935 (by decide +kernel) (by decide +kernel)
  | 13, _ => x_w 937 (by decide +kernel) (by decide +kernel)
  | 14, _ => x_w 939 (by decide +kernel) (by decide +kernel)
  | 15, _ => x_w 941 (by decide +kernel) (by decide +kernel)
  | 16, _ => x_w 943 (by decide +kernel) (by decide +kernel)
  | 17, _ => x_w 945 (by decide +kernel) (by decide +kernel)
  | 18, _ => x_w 947 (by decide +kernel) (by decide +kernel)
  | 19, _ => x_w 949 (by decide +kernel) (by decide +kernel)
  | 20, _ => x_w 951 (by decide +kernel) (by decide +kernel)
  | 21, _ => x_w 953 (by decide +kernel) (by decide +kernel)
  | 22, _ => x_w 955 (by decide +kernel) (by decide +kernel)
  | 23, _ => x_w 957 (by decide +kernel) (by decide +kernel)
  | 24, _ => x_w 959 (by decide +kernel) (by decide +kernel)
  | 25, _ => x_w 961 (by decide +kernel) (by decide +kernel)
  | 26, _ => x_w 963 (by decide +kernel) (by decide +kernel)
  | 27, _ => x_w 965 (by decide +kernel) (by decide +kernel)
  | 28, _ => x_w 967 (by decide +kernel) (by decide +kernel)
  | 29, _ => x_w 969 (by decide +kernel) (by decide +kernel)
  | 30, _ => x_w 971 (by decide +kernel) (by decide +kernel)
  | 31, _ => x_w 973 (by decide +kernel) (by decide +kernel)
  | 32, _ => x_w 975 (by decide +kernel) (by decide +kernel)
  | 33, _ => x_w 977 (by decide +kernel) (by decide +kernel)
  | 34, _ => x_w 979 (by decide +kernel) (by decide +kernel)
  | 35, _ => x_w 981 (by decide +kernel) (by decide +kernel)
  | 36, _ => x_w 983 (by decide +kernel) (by decide +kernel)
  | 37, _ => x_w 985 (by decide +kernel) (by decide +kernel)
  | 38, _ => x_w 987 (by decide +kernel) (by decide +kernel)
  | 39, _ => x_w 989 (by decide +kernel) (by decide +kernel)
  | 40, _ => x_w 991 (by decide +kernel) (by decide +kernel)
  | 41, _ => x_w 993 (by decide +kernel) (by decide +kernel)
  | 42, _ => x_w 995 (by decide +kernel) (by decide +kernel)
  | 43, _ => x_w 997 (by decide +kernel) (by decide +kernel)
  | 44, _ => x_w 999 (by decide +kernel) (by decide +kernel)
  | 45, _ => x_w 1001 (by decide +kernel) (by decide +kernel)
  | k + 46, h => absurd h (by omega)
theorem x_y11 : ∀ k, k < 46 → parseFieldDescriptor (x_T11 k).2.2.1 = some (x_t11 k) := by decide +kernel
theorem x_f11 : x_clf "SessionHostModel" x_T11 46 := ⟨fun w hw => by
    obtain ⟨k, hk, rfl⟩ := List.mem_map.mp hw
    exact x_l11 k (List.mem_range.mp hk), ⟨x_t11, x_y11⟩, by decide +kernel⟩
theorem x_cl_ok (ci : Nat) (C : String) (T : u_T) (N : Nat) (h : x_cl[ci]? = some (C, T, N)) : x_clf C T N := match ci, h with
  | 0, h => by cases h; exact x_f0
  | 1, h => by cases h; exact x_f1
  | 2, h => by cases h; exact x_f2
  | 3, h => by cases h; exact x_f3
  | 4, h => by cases h; exact x_f4
  | 5, h => by cases h; exact x_f5
  | 6, h => by cases h; exact x_f6
  | 7, h => by cases h; exact x_f7
  | 8, h => by cases h; exact x_f8
  | 9, h => by cases h; exact x_f9
  | 10, h => by cases h; exact x_f10
  | 11, h => by cases h; exact x_f11
  | n + 12, h => by cases h
def x_ob : List Nat := [0, 1, 2, 4, 5, 6, 7, 8, 9, 10, 11]
theorem x_ob_ok (ci : Nat) (h : ci ∈ x_ob) : ∃ r : vw_C, x_cl[ci]? = some r ∧ Cond.castable r.1 "java/lang/Object" ∈ lw_tbl := by
  simp only [x_ob, List.mem_cons, List.not_mem_nil, or_false] at h
  rcases h with rfl | rfl | rfl | rfl | rfl | rfl | rfl | rfl | rfl | rfl | rfl
  · exact ⟨_, rfl, List.mem_of_getElem? (i := 1230) (by decide +kernel)⟩
  · exact ⟨_, rfl, List.mem_of_getElem? (i := 1231) (by decide +kernel)⟩
  · exact ⟨_, rfl, List.mem_of_getElem? (i := 1232) (by decide +kernel)⟩
  · exact ⟨_, rfl, List.mem_of_getElem? (i := 1233) (by decide +kernel)⟩
  · exact ⟨_, rfl, List.mem_of_getElem? (i := 1235) (by decide +kernel)⟩
  · exact ⟨_, rfl, List.mem_of_getElem? (i := 1236) (by decide +kernel)⟩
  · exact ⟨_, rfl, List.mem_of_getElem? (i := 1237) (by decide +kernel)⟩
  · exact ⟨_, rfl, List.mem_of_getElem? (i := 1238) (by decide +kernel)⟩
  · exact ⟨_, rfl, List.mem_of_getElem? (i := 1239) (by decide +kernel)⟩
  · exact ⟨_, rfl, List.mem_of_getElem? (i := 1229) (by decide +kernel)⟩
  · exact ⟨_, rfl, List.mem_of_getElem? (i := 1234) (by decide +kernel)⟩
