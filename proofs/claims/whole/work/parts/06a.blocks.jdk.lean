/-! Printed by wip/whole/gen.py: the methods, block by block. -/
def b_ArrayList_init : List (Nat × List XO) := [(0, [(.aload_n 0, 1, 0, [], 0), (.invokespecial 1, 3, 6, [(0, 0)], 0), (.aload_n 0, 1, 0, [], 0), (.getstatic 39, 3, 0, [], 0), (.putfield 9, 3, 1, [(3, 2)], 0), (.return_, 1, 0, [], 0)])]
theorem ok_ArrayList_init : x_mok y_ArrayList_init (x_on 5) true b_ArrayList_init := x_chm_ok rfl (fun _ => rfl) (by decide +kernel)
def b_AbstractList_init : List (Nat × List XO) := [(0, [(.aload_n 0, 1, 0, [], 0), (.invokespecial 1, 3, 7, [(0, 0)], 0), (.aload_n 0, 1, 0, [], 0), (.iconst 0, 1, 0, [], 0), (.putfield 7, 3, 0, [(3, 0)], 0), (.return_, 1, 0, [], 0)])]
theorem ok_AbstractList_init : x_mok y_AbstractList_init (x_on 6) true b_AbstractList_init := x_chm_ok rfl (fun _ => rfl) (by decide +kernel)
def b_AbstractCollection_init : List (Nat × List XO) := [(0, [(.aload_n 0, 1, 0, [], 0), (.invokespecial 1, 3, 0, [], 0), (.return_, 1, 0, [], 0)])]
theorem ok_AbstractCollection_init : x_mok y_AbstractCollection_init (x_on 7) true b_AbstractCollection_init := x_chm_ok rfl (fun _ => rfl) (by decide +kernel)
def b_ArrayList_size : List (Nat × List XO) := [(0, [(.aload_n 0, 1, 0, [], 0), (.getfield 48, 3, 2, [(3, 0)], 0), (.ireturn, 1, 0, [], 0)])]
theorem ok_ArrayList_size : x_mok y_ArrayList_size (x_on 5) false b_ArrayList_size := x_chm_ok rfl (by decide) (by decide +kernel)
def b_ArrayList_get : List (Nat × List XO) := [(0, [(.iload_n 1, 1, 1, [], 0), (.aload_n 0, 1, 0, [], 0), (.getfield 48, 3, 2, [(3, 0)], 0), (.invokestatic 118, 3, 21, [(2, 0)], 0), (.pop, 1, 0, [], 0), (.aload_n 0, 1, 0, [], 0), (.iload_n 1, 1, 1, [], 0), (.invokevirtual 123, 3, 1, [(3, 23)], 0), (.areturn, 1, 0, [], 0)])]
theorem ok_ArrayList_get : x_mok y_ArrayList_get (x_on 5) false b_ArrayList_get := x_chm_ok rfl (by decide) (by decide +kernel)
def b_Objects_checkIndex : List (Nat × List XO) := [(0, [(.iload_n 0, 1, 0, [], 0), (.iload_n 1, 1, 1, [], 0), (.aconst_null, 1, 0, [], 0), (.invokestatic 105, 3, 22, [(3, 0)], 0), (.ireturn, 1, 0, [], 0)])]
theorem ok_Objects_checkIndex : x_mok y_Objects_checkIndex (x_on 13) false b_Objects_checkIndex := x_chm_ok rfl (by decide) (by decide +kernel)
def b_Preconditions_checkIndex : List (Nat × List XO) := [(0, [(.iload_n 0, 1, 0, [], 0), (.ifCond .lt 8, 3, 9, [], 0), (.iload_n 0, 1, 0, [], 0), (.iload_n 1, 1, 1, [], 0), (.if_icmp .lt 10, 3, 16, [], 0)]),
  (9, [(.aload_n 2, 1, 2, [], 0), (.iload_n 0, 1, 0, [], 0), (.iload_n 1, 1, 1, [], 0)]),
  (16, [(.iload_n 0, 1, 0, [], 0), (.ireturn, 1, 0, [], 0)])]
theorem ok_Preconditions_checkIndex : x_mok y_Preconditions_checkIndex (x_on 14) false b_Preconditions_checkIndex := x_chm_ok rfl (by decide) (by decide +kernel)
def b_ArrayList_elementData : List (Nat × List XO) := [(0, [(.aload_n 0, 1, 0, [], 0), (.getfield 9, 3, 1, [(3, 2)], 0), (.iload_n 1, 1, 1, [], 0), (.aaload, 1, 0, x_ald, 0), (.areturn, 1, 0, [], 0)])]
theorem ok_ArrayList_elementData : x_mok y_ArrayList_elementData (x_on 5) false b_ArrayList_elementData := x_chm_ok rfl (by decide) (by decide +kernel)
def b_ArrayList_add : List (Nat × List XO) := [(0, [(.aload_n 0, 1, 0, [], 0), (.dup, 1, 0, [], 0), (.getfield 63, 3, 0, [(3, 0)], 0), (.iconst 1, 1, 0, [], 1), (.iadd, 1, 0, [], 0), (.putfield 63, 3, 0, [(3, 0)], 0), (.aload_n 0, 1, 0, [], 0), (.aload_n 1, 1, 1, [], 0), (.aload_n 0, 1, 0, [], 0), (.getfield 9, 3, 1, [(3, 2)], 0), (.aload_n 0, 1, 0, [], 0), (.getfield 48, 3, 2, [(3, 0)], 0), (.invokevirtual 131, 3, 3, [(3, 26)], 0), (.iconst 1, 1, 0, [], 1), (.ireturn, 1, 1, [], 0)])]
theorem ok_ArrayList_add : x_mok y_ArrayList_add (x_on 5) false b_ArrayList_add := x_chm_ok rfl (by decide) (by decide +kernel)
def b_ArrayList_add2 : List (Nat × List XO) := [(0, [(.iload_n 3, 1, 3, [], 0), (.aload_n 2, 1, 2, [], 0), (.arraylength, 1, 0, [], 0), (.if_icmp .ne 8, 3, 11, [], 0), (.aload_n 0, 1, 0, [], 0), (.invokevirtual 129, 3, 0, [(3, 27)], 0), (.astore_n 2, 1, 2, [], 0)]),
  (11, [(.aload_n 2, 1, 2, [], 0), (.iload_n 3, 1, 3, [], 0), (.aload_n 1, 1, 1, [], 0), (.aastore, 1, 0, x_ast, 0), (.aload_n 0, 1, 0, [], 0), (.iload_n 3, 1, 3, [], 0), (.iconst 1, 1, 0, [], 1), (.iadd, 1, 0, [], 0), (.putfield 48, 3, 2, [(3, 0)], 0), (.return_, 1, 0, [], 0)])]
theorem ok_ArrayList_add2 : x_mok y_ArrayList_add2 (x_on 5) false b_ArrayList_add2 := x_chm_ok rfl (by decide) (by decide +kernel)
def b_ArrayList_grow : List (Nat × List XO) := [(0, [(.aload_n 0, 1, 0, [], 0), (.aload_n 0, 1, 0, [], 0), (.getfield 48, 3, 2, [(3, 0)], 0), (.iconst 1, 1, 0, [], 1), (.iadd, 1, 0, [], 0), (.invokevirtual 69, 3, 1, [(3, 28)], 0), (.areturn, 1, 0, [], 0)])]
theorem ok_ArrayList_grow : x_mok y_ArrayList_grow (x_on 5) false b_ArrayList_grow := x_chm_ok rfl (by decide) (by decide +kernel)
def b_ArrayList_grow2 : List (Nat × List XO) := [(0, [(.aload_n 0, 1, 0, [], 0), (.getfield 9, 3, 1, [(3, 2)], 0), (.arraylength, 1, 0, [], 0), (.istore_n 2, 1, 2, [], 0), (.iload_n 2, 1, 2, [], 0), (.ifCond .gt 13, 3, 20, [], 0), (.aload_n 0, 1, 0, [], 0), (.getfield 9, 3, 1, [(3, 2)], 0), (.getstatic 39, 3, 0, [], 0), (.if_acmp .eq 28, 3, 45, [], 0)]),
  (20, [(.iload_n 2, 1, 2, [], 0), (.iload_n 1, 1, 1, [], 0), (.iload_n 2, 1, 2, [], 0), (.isub, 1, 0, [], 0), (.iload_n 2, 1, 2, [], 0), (.iconst 1, 1, 0, [], 1), (.ishr, 1, 0, [], 0), (.invokestatic 73, 3, 29, [(3, 0)], 0), (.istore_n 3, 1, 3, [], 0), (.aload_n 0, 1, 0, [], 0), (.aload_n 0, 1, 0, [], 0), (.getfield 9, 3, 1, [(3, 2)], 0), (.iload_n 3, 1, 3, [], 0), (.invokestatic 66, 3, 32, [(2, 0)], 0), (.dup_x1, 1, 0, [], 0), (.putfield 9, 3, 1, [(3, 2)], 0), (.areturn, 1, 0, [], 0)]),
  (45, [(.aload_n 0, 1, 0, [], 0), (.bipush 10, 2, 0, [], 10), (.iload_n 1, 1, 1, [], 0), (.invokestatic 79, 3, 30, [(2, 0)], 0), (.anewarray 7, 3, 5, [], 0), (.dup_x1, 1, 0, [], 0), (.putfield 9, 3, 1, [(3, 2)], 0), (.areturn, 1, 0, [], 0)])]
theorem ok_ArrayList_grow2 : x_mok y_ArrayList_grow2 (x_on 5) false b_ArrayList_grow2 := x_chm_ok rfl (by decide) (by decide +kernel)
def b_ArraysSupport_newLength : List (Nat × List XO) := [(0, [(.iload_n 0, 1, 0, [], 0), (.iload_n 1, 1, 1, [], 0), (.iload_n 2, 1, 2, [], 0), (.invokestatic 194, 3, 30, [(2, 0)], 0), (.iadd, 1, 0, [], 0), (.istore_n 3, 1, 3, [], 0), (.iconst 0, 1, 0, [], 0), (.iload_n 3, 1, 3, [], 0), (.if_icmp .ge 11, 3, 21, [], 0), (.iload_n 3, 1, 3, [], 0), (.ldc 200, 2, 0, [], 2147483639), (.if_icmp .gt 5, 3, 21, [], 0), (.iload_n 3, 1, 3, [], 0), (.ireturn, 1, 0, [], 0)]),
  (21, [(.iload_n 0, 1, 0, [], 0), (.iload_n 1, 1, 1, [], 0), (.invokestatic 201, 3, 31, [(2, 0)], 0), (.ireturn, 1, 0, [], 0)])]
theorem ok_ArraysSupport_newLength : x_mok y_ArraysSupport_newLength (x_on 15) false b_ArraysSupport_newLength := x_chm_ok rfl (by decide) (by decide +kernel)
def b_Math_max : List (Nat × List XO) := [(0, [(.iload_n 0, 1, 0, [], 0), (.iload_n 1, 1, 1, [], 0), (.if_icmp .lt 7, 3, 9, [], 0), (.iload_n 0, 1, 0, [], 0), (.goto 4, 3, 10, [], 0)]),
  (9, [(.iload_n 1, 1, 1, [], 0)]),
  (10, [(.ireturn, 1, 0, [], 0)])]
theorem ok_Math_max : x_mok y_Math_max (x_on 16) false b_Math_max := x_chm_ok rfl (by decide) (by decide +kernel)
def b_ArraysSupport_hugeLength : List (Nat × List XO) := [(0, [(.iload_n 0, 1, 0, [], 0), (.iload_n 1, 1, 1, [], 0), (.iadd, 1, 0, [], 0), (.istore_n 2, 1, 2, [], 0), (.iload_n 2, 1, 2, [], 0), (.ifCond .ge 44, 3, 49, [], 0)]),
  (11, [(.dup, 1, 0, [], 0)]),
  (15, [(.dup, 1, 0, [], 0)]),
  (24, [(.iload_n 0, 1, 0, [], 0)]),
  (33, [(.iload_n 1, 1, 1, [], 0)]),
  (49, [(.iload_n 2, 1, 2, [], 0), (.ldc 200, 2, 0, [], 2147483639), (.if_icmp .gt 6, 3, 58, [], 0), (.ldc 200, 2, 0, [], 2147483639), (.ireturn, 1, 0, [], 0)]),
  (58, [(.iload_n 2, 1, 2, [], 0), (.ireturn, 1, 0, [], 0)])]
theorem ok_ArraysSupport_hugeLength : x_mok y_ArraysSupport_hugeLength (x_on 15) false b_ArraysSupport_hugeLength := x_chm_ok rfl (by decide) (by decide +kernel)
def b_Arrays_copyOf : List (Nat × List XO) := [(0, [(.aload_n 0, 1, 0, [], 0), (.iload_n 1, 1, 1, [], 0), (.aload_n 0, 1, 0, [], 0), (.invokevirtual 86, 3, 5, [], 0), (.invokestatic 300, 3, 33, [(3, 0)], 0), (.areturn, 1, 0, [], 0)])]
theorem ok_Arrays_copyOf : x_mok y_Arrays_copyOf (x_on 17) false b_Arrays_copyOf := x_chm_ok rfl (by decide) (by decide +kernel)
def b_Arrays_copyOf2 : List (Nat × List XO) := [(0, [(.aload_n 2, 1, 2, [], 0), (.ldc 110, 2, 0, [(0, 0)], 0), (.if_acmp .ne 10, 3, 13, [], 0), (.iload_n 1, 1, 1, [], 0), (.anewarray 2, 3, 5, [], 0), (.goto 14, 3, 24, [], 0)]),
  (13, [(.aload_n 2, 1, 2, [], 0)]),
  (17, [(.iload_n 1, 1, 1, [], 0)]),
  (24, [(.astore_n 3, 1, 3, [], 0), (.aload_n 0, 1, 0, [], 0), (.iconst 0, 1, 0, [], 0), (.aload_n 3, 1, 3, [], 0), (.iconst 0, 1, 0, [], 0), (.aload_n 0, 1, 0, [], 0), (.arraylength, 1, 0, [], 0), (.iload_n 1, 1, 1, [], 0), (.invokestatic 304, 3, 34, [(2, 0)], 0), (.invokestatic 150, 3, 5, [(5, 3)], 0), (.aload_n 3, 1, 3, [], 0), (.areturn, 1, 0, [], 0)])]
theorem ok_Arrays_copyOf2 : x_mok y_Arrays_copyOf2 (x_on 17) false b_Arrays_copyOf2 := x_chm_ok rfl (by decide) (by decide +kernel)
def b_Math_min : List (Nat × List XO) := [(0, [(.iload_n 0, 1, 0, [], 0), (.iload_n 1, 1, 1, [], 0), (.if_icmp .gt 7, 3, 9, [], 0), (.iload_n 0, 1, 0, [], 0), (.goto 4, 3, 10, [], 0)]),
  (9, [(.iload_n 1, 1, 1, [], 0)]),
  (10, [(.ireturn, 1, 0, [], 0)])]
theorem ok_Math_min : x_mok y_Math_min (x_on 16) false b_Math_min := x_chm_ok rfl (by decide) (by decide +kernel)
def b_ArrayList_isEmpty : List (Nat × List XO) := [(0, [(.aload_n 0, 1, 0, [], 0), (.getfield 48, 3, 2, [(3, 0)], 0), (.ifCond .ne 7, 3, 11, [], 0), (.iconst 1, 1, 0, [], 1), (.goto 4, 3, 12, [], 0)]),
  (11, [(.iconst 0, 1, 0, [], 0)]),
  (12, [(.ireturn, 1, 1, [], 0)])]
theorem ok_ArrayList_isEmpty : x_mok y_ArrayList_isEmpty (x_on 5) false b_ArrayList_isEmpty := x_chm_ok rfl (by decide) (by decide +kernel)
def b_ArrayList_remove : List (Nat × List XO) := [(0, [(.iload_n 1, 1, 1, [], 0), (.aload_n 0, 1, 0, [], 0), (.getfield 48, 3, 2, [(3, 0)], 0), (.invokestatic 118, 3, 21, [(2, 0)], 0), (.pop, 1, 0, [], 0), (.aload_n 0, 1, 0, [], 0), (.getfield 9, 3, 1, [(3, 2)], 0), (.astore_n 2, 1, 2, [], 0), (.aload_n 2, 1, 2, [], 0), (.iload_n 1, 1, 1, [], 0), (.aaload, 1, 0, x_ald, 0), (.astore_n 3, 1, 3, [], 0), (.aload_n 0, 1, 0, [], 0), (.aload_n 2, 1, 2, [], 0), (.iload_n 1, 1, 1, [], 0), (.invokevirtual 144, 3, 2, [(3, 57)], 0), (.aload_n 3, 1, 3, [], 0), (.areturn, 1, 0, [], 0)])]
theorem ok_ArrayList_remove : x_mok y_ArrayList_remove (x_on 5) false b_ArrayList_remove := x_chm_ok rfl (by decide) (by decide +kernel)
def b_ArrayList_fastRemove : List (Nat × List XO) := [(0, [(.aload_n 0, 1, 0, [], 0), (.dup, 1, 0, [], 0), (.getfield 63, 3, 0, [(3, 0)], 0), (.iconst 1, 1, 0, [], 1), (.iadd, 1, 0, [], 0), (.putfield 63, 3, 0, [(3, 0)], 0), (.aload_n 0, 1, 0, [], 0), (.getfield 48, 3, 2, [(3, 0)], 0), (.iconst 1, 1, 0, [], 1), (.isub, 1, 0, [], 0), (.dup, 1, 0, [], 0), (.istore_n 3, 1, 3, [], 0), (.iload_n 2, 1, 2, [], 0), (.if_icmp .le 15, 3, 34, [], 0), (.aload_n 1, 1, 1, [], 0), (.iload_n 2, 1, 2, [], 0), (.iconst 1, 1, 0, [], 1), (.iadd, 1, 0, [], 0), (.aload_n 1, 1, 1, [], 0), (.iload_n 2, 1, 2, [], 0), (.iload_n 3, 1, 3, [], 0), (.iload_n 2, 1, 2, [], 0), (.isub, 1, 0, [], 0), (.invokestatic 112, 3, 5, [(5, 3)], 0)]),
  (34, [(.aload_n 1, 1, 1, [], 0), (.aload_n 0, 1, 0, [], 0), (.iload_n 3, 1, 3, [], 0), (.dup_x1, 1, 0, [], 0), (.putfield 48, 3, 2, [(3, 0)], 0), (.aconst_null, 1, 0, [], 0), (.aastore, 1, 0, x_ast, 0), (.return_, 1, 0, [], 0)])]
theorem ok_ArrayList_fastRemove : x_mok y_ArrayList_fastRemove (x_on 5) false b_ArrayList_fastRemove := x_chm_ok rfl (by decide) (by decide +kernel)
