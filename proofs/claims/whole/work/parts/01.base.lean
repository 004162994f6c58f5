-- ===== PART A: goes FIRST, ahead of the names: the tables' words, and 'selects' of the private methods out of them =====
/-- a private method of a class that the tables say can be made, by its rows of tables_1 -/
def lw_okq (q : MethodName × Nat) : Prop := (q.1.cls ≠ "java/lang/invoke/MethodHandle" ∧ q.1.cls ≠ "java/lang/invoke/VarHandle") ∧ Cond.instantiable q.1.cls q.2 ∈ tables_1 ∧ Cond.privateMethod q.1 ∈ tables_1 ∧ Cond.instanceMethod q.1 ∈ tables_1
theorem lw_p0 : lw_okq (⟨"AlarmTables", "findCounter", "(I)LAlarmTables$Counter;"⟩, 8) := ⟨⟨by decide +kernel, by decide +kernel⟩, List.mem_of_getElem? (i := 16) (by decide +kernel), List.mem_of_getElem? (i := 78) (by decide +kernel), List.mem_of_getElem? (i := 79) (by decide +kernel)⟩
theorem lw_p1 : lw_okq (⟨"AlarmTables", "isUnknownFor", "(II)Z"⟩, 8) := ⟨⟨by decide +kernel, by decide +kernel⟩, List.mem_of_getElem? (i := 16) (by decide +kernel), List.mem_of_getElem? (i := 82) (by decide +kernel), List.mem_of_getElem? (i := 83) (by decide +kernel)⟩
theorem lw_p2 : lw_okq (⟨"AlarmTables", "findAlarm", "(I)LAlarmTables$Alarm;"⟩, 8) := ⟨⟨by decide +kernel, by decide +kernel⟩, List.mem_of_getElem? (i := 16) (by decide +kernel), List.mem_of_getElem? (i := 86) (by decide +kernel), List.mem_of_getElem? (i := 87) (by decide +kernel)⟩
theorem lw_p3 : lw_okq (⟨"AlarmTables", "link", "(LAlarmTables$Counter;LAlarmTables$Counter;)V"⟩, 8) := ⟨⟨by decide +kernel, by decide +kernel⟩, List.mem_of_getElem? (i := 16) (by decide +kernel), List.mem_of_getElem? (i := 144) (by decide +kernel), List.mem_of_getElem? (i := 145) (by decide +kernel)⟩
theorem lw_p4 : lw_okq (⟨"AlarmTables", "findTable", "(I)LAlarmTables$Table;"⟩, 8) := ⟨⟨by decide +kernel, by decide +kernel⟩, List.mem_of_getElem? (i := 16) (by decide +kernel), List.mem_of_getElem? (i := 238) (by decide +kernel), List.mem_of_getElem? (i := 239) (by decide +kernel)⟩
theorem lw_p5 : lw_okq (⟨"AlarmTables", "makeStep", "(LAlarmTables$Counter;I)V"⟩, 8) := ⟨⟨by decide +kernel, by decide +kernel⟩, List.mem_of_getElem? (i := 16) (by decide +kernel), List.mem_of_getElem? (i := 299) (by decide +kernel), List.mem_of_getElem? (i := 300) (by decide +kernel)⟩
theorem lw_p6 : lw_okq (⟨"AlarmTables", "takeAlarmTurn", "(LAlarmTables$Alarm;I)V"⟩, 8) := ⟨⟨by decide +kernel, by decide +kernel⟩, List.mem_of_getElem? (i := 16) (by decide +kernel), List.mem_of_getElem? (i := 308) (by decide +kernel), List.mem_of_getElem? (i := 309) (by decide +kernel)⟩
theorem lw_p7 : lw_okq (⟨"AlarmTables", "perform", "(LAlarmTables$Act;I)V"⟩, 8) := ⟨⟨by decide +kernel, by decide +kernel⟩, List.mem_of_getElem? (i := 16) (by decide +kernel), List.mem_of_getElem? (i := 331) (by decide +kernel), List.mem_of_getElem? (i := 332) (by decide +kernel)⟩
theorem lw_p8 : lw_okq (⟨"AlarmTables", "takeTableTurn", "(LAlarmTables$Table;I)V"⟩, 8) := ⟨⟨by decide +kernel, by decide +kernel⟩, List.mem_of_getElem? (i := 16) (by decide +kernel), List.mem_of_getElem? (i := 335) (by decide +kernel), List.mem_of_getElem? (i := 336) (by decide +kernel)⟩
theorem lw_p9 : lw_okq (⟨"AlarmTables", "goThrough", "(LAlarmTables$Table;I)LAlarmTables$Table;"⟩, 8) := ⟨⟨by decide +kernel, by decide +kernel⟩, List.mem_of_getElem? (i := 16) (by decide +kernel), List.mem_of_getElem? (i := 339) (by decide +kernel), List.mem_of_getElem? (i := 340) (by decide +kernel)⟩
theorem lw_p10 : lw_okq (⟨"AlarmTables", "giveOver", "(LAlarmTables$Table;)LAlarmTables$Table;"⟩, 8) := ⟨⟨by decide +kernel, by decide +kernel⟩, List.mem_of_getElem? (i := 16) (by decide +kernel), List.mem_of_getElem? (i := 354) (by decide +kernel), List.mem_of_getElem? (i := 355) (by decide +kernel)⟩
theorem lw_p11 : lw_okq (⟨"java/lang/Throwable", "fillInStackTrace", "(I)Ljava/lang/Throwable;"⟩, 6) := ⟨⟨by decide +kernel, by decide +kernel⟩, List.mem_of_getElem? (i := 419) (by decide +kernel), List.mem_of_getElem? (i := 417) (by decide +kernel), List.mem_of_getElem? (i := 418) (by decide +kernel)⟩
theorem lw_p12 : lw_okq (⟨"AlarmTablesModel", "no", "(I)Z"⟩, 35) := ⟨⟨by decide +kernel, by decide +kernel⟩, List.mem_of_getElem? (i := 502) (by decide +kernel), List.mem_of_getElem? (i := 630) (by decide +kernel), List.mem_of_getElem? (i := 631) (by decide +kernel)⟩
theorem lw_p13 : lw_okq (⟨"AlarmTablesModel", "noAlarm", "(I)Z"⟩, 35) := ⟨⟨by decide +kernel, by decide +kernel⟩, List.mem_of_getElem? (i := 502) (by decide +kernel), List.mem_of_getElem? (i := 634) (by decide +kernel), List.mem_of_getElem? (i := 635) (by decide +kernel)⟩
theorem lw_p14 : lw_okq (⟨"AlarmTablesModel", "leadsTo", "(II)Z"⟩, 35) := ⟨⟨by decide +kernel, by decide +kernel⟩, List.mem_of_getElem? (i := 502) (by decide +kernel), List.mem_of_getElem? (i := 638) (by decide +kernel), List.mem_of_getElem? (i := 639) (by decide +kernel)⟩
theorem lw_p15 : lw_okq (⟨"AlarmTablesModel", "noTable", "(I)Z"⟩, 35) := ⟨⟨by decide +kernel, by decide +kernel⟩, List.mem_of_getElem? (i := 502) (by decide +kernel), List.mem_of_getElem? (i := 660) (by decide +kernel), List.mem_of_getElem? (i := 661) (by decide +kernel)⟩
def lw_privs_1 : List (MethodName × Nat) := [(⟨"AlarmTables", "findCounter", "(I)LAlarmTables$Counter;"⟩, 8), (⟨"AlarmTables", "isUnknownFor", "(II)Z"⟩, 8), (⟨"AlarmTables", "findAlarm", "(I)LAlarmTables$Alarm;"⟩, 8), (⟨"AlarmTables", "link", "(LAlarmTables$Counter;LAlarmTables$Counter;)V"⟩, 8), (⟨"AlarmTables", "findTable", "(I)LAlarmTables$Table;"⟩, 8), (⟨"AlarmTables", "makeStep", "(LAlarmTables$Counter;I)V"⟩, 8), (⟨"AlarmTables", "takeAlarmTurn", "(LAlarmTables$Alarm;I)V"⟩, 8), (⟨"AlarmTables", "perform", "(LAlarmTables$Act;I)V"⟩, 8), (⟨"AlarmTables", "takeTableTurn", "(LAlarmTables$Table;I)V"⟩, 8), (⟨"AlarmTables", "goThrough", "(LAlarmTables$Table;I)LAlarmTables$Table;"⟩, 8), (⟨"AlarmTables", "giveOver", "(LAlarmTables$Table;)LAlarmTables$Table;"⟩, 8), (⟨"java/lang/Throwable", "fillInStackTrace", "(I)Ljava/lang/Throwable;"⟩, 6), (⟨"AlarmTablesModel", "no", "(I)Z"⟩, 35), (⟨"AlarmTablesModel", "noAlarm", "(I)Z"⟩, 35), (⟨"AlarmTablesModel", "leadsTo", "(II)Z"⟩, 35), (⟨"AlarmTablesModel", "noTable", "(I)Z"⟩, 35)]
theorem lw_r1 : ∀ q ∈ lw_privs_1, lw_okq q := List.forall_mem_cons.mpr ⟨lw_p0, List.forall_mem_cons.mpr ⟨lw_p1, List.forall_mem_cons.mpr ⟨lw_p2, List.forall_mem_cons.mpr ⟨lw_p3, List.forall_mem_cons.mpr ⟨lw_p4, List.forall_mem_cons.mpr ⟨lw_p5, List.forall_mem_cons.mpr ⟨lw_p6, List.forall_mem_cons.mpr ⟨lw_p7, List.forall_mem_cons.mpr ⟨lw_p8, List.forall_mem_cons.mpr ⟨lw_p9, List.forall_mem_cons.mpr ⟨lw_p10, List.forall_mem_cons.mpr ⟨lw_p11, List.forall_mem_cons.mpr ⟨lw_p12, List.forall_mem_cons.mpr ⟨lw_p13, List.forall_mem_cons.mpr ⟨lw_p14, List.forall_mem_cons.mpr ⟨lw_p15, fun _ h => absurd h List.not_mem_nil⟩⟩⟩⟩⟩⟩⟩⟩⟩⟩⟩⟩⟩⟩⟩⟩
theorem lw_p16 : lw_okq (⟨"AlarmTablesModel", "makeStep", "(I)V"⟩, 35) := ⟨⟨by decide +kernel, by decide +kernel⟩, List.mem_of_getElem? (i := 502) (by decide +kernel), List.mem_of_getElem? (i := 685) (by decide +kernel), List.mem_of_getElem? (i := 686) (by decide +kernel)⟩
theorem lw_p17 : lw_okq (⟨"AlarmTablesModel", "go", "()V"⟩, 35) := ⟨⟨by decide +kernel, by decide +kernel⟩, List.mem_of_getElem? (i := 502) (by decide +kernel), List.mem_of_getElem? (i := 689) (by decide +kernel), List.mem_of_getElem? (i := 690) (by decide +kernel)⟩
theorem lw_p18 : lw_okq (⟨"AlarmTablesModel", "goTable", "(II)V"⟩, 35) := ⟨⟨by decide +kernel, by decide +kernel⟩, List.mem_of_getElem? (i := 502) (by decide +kernel), List.mem_of_getElem? (i := 693) (by decide +kernel), List.mem_of_getElem? (i := 694) (by decide +kernel)⟩
theorem lw_p19 : lw_okq (⟨"AlarmTablesModel", "tableGoes", "(I)I"⟩, 35) := ⟨⟨by decide +kernel, by decide +kernel⟩, List.mem_of_getElem? (i := 502) (by decide +kernel), List.mem_of_getElem? (i := 697) (by decide +kernel), List.mem_of_getElem? (i := 698) (by decide +kernel)⟩
theorem lw_p20 : lw_okq (⟨"AlarmTablesModel", "goOn", "(IJ)Z"⟩, 35) := ⟨⟨by decide +kernel, by decide +kernel⟩, List.mem_of_getElem? (i := 502) (by decide +kernel), List.mem_of_getElem? (i := 701) (by decide +kernel), List.mem_of_getElem? (i := 702) (by decide +kernel)⟩
theorem lw_p21 : lw_okq (⟨"AlarmTablesModel", "note", "(IIJI)V"⟩, 35) := ⟨⟨by decide +kernel, by decide +kernel⟩, List.mem_of_getElem? (i := 502) (by decide +kernel), List.mem_of_getElem? (i := 706) (by decide +kernel), List.mem_of_getElem? (i := 707) (by decide +kernel)⟩
theorem lw_p22 : lw_okq (⟨"AlarmTablesModel", "byAct", "(I)V"⟩, 35) := ⟨⟨by decide +kernel, by decide +kernel⟩, List.mem_of_getElem? (i := 502) (by decide +kernel), List.mem_of_getElem? (i := 710) (by decide +kernel), List.mem_of_getElem? (i := 711) (by decide +kernel)⟩
theorem lw_p23 : lw_okq (⟨"AlarmTablesModel", "goAlarm", "(I)V"⟩, 35) := ⟨⟨by decide +kernel, by decide +kernel⟩, List.mem_of_getElem? (i := 502) (by decide +kernel), List.mem_of_getElem? (i := 714) (by decide +kernel), List.mem_of_getElem? (i := 715) (by decide +kernel)⟩
def lw_privs_2 : List (MethodName × Nat) := [(⟨"AlarmTablesModel", "makeStep", "(I)V"⟩, 35), (⟨"AlarmTablesModel", "go", "()V"⟩, 35), (⟨"AlarmTablesModel", "goTable", "(II)V"⟩, 35), (⟨"AlarmTablesModel", "tableGoes", "(I)I"⟩, 35), (⟨"AlarmTablesModel", "goOn", "(IJ)Z"⟩, 35), (⟨"AlarmTablesModel", "note", "(IIJI)V"⟩, 35), (⟨"AlarmTablesModel", "byAct", "(I)V"⟩, 35), (⟨"AlarmTablesModel", "goAlarm", "(I)V"⟩, 35)]
theorem lw_r2 : ∀ q ∈ lw_privs_2, lw_okq q := List.forall_mem_cons.mpr ⟨lw_p16, List.forall_mem_cons.mpr ⟨lw_p17, List.forall_mem_cons.mpr ⟨lw_p18, List.forall_mem_cons.mpr ⟨lw_p19, List.forall_mem_cons.mpr ⟨lw_p20, List.forall_mem_cons.mpr ⟨lw_p21, List.forall_mem_cons.mpr ⟨lw_p22, List.forall_mem_cons.mpr ⟨lw_p23, fun _ h => absurd h List.not_mem_nil⟩⟩⟩⟩⟩⟩⟩⟩
def lw_privs : List (MethodName × Nat) := lw_privs_1 ++ (lw_privs_2)
def lw_tbl : List Cond := k2_sels lw_privs ++ tables_1
theorem lw_privs_ok : ∀ q ∈ lw_privs, lw_okq q := by
  show ∀ q ∈ lw_privs_1 ++ (lw_privs_2), lw_okq q
  exact List.forall_mem_append.mpr ⟨lw_r1, lw_r2⟩
/-- the words that stay good along a run -/
def wT : List Cond := lw_tbl.filter goodWord
theorem wT_in {w : Cond} (i : Nat) (h : lw_tbl[i]? = some w) (g : goodWord w = true) : w ∈ wT := List.mem_filter.mpr ⟨List.mem_of_getElem? h, g⟩
def RAct : String := "AlarmTables$Act"
def TAct : u_T := fun k => match k with
  | 0 => ("AlarmTables$Act", "stepped", "LAlarmTables$Counter;", true)
  | _ => ("AlarmTables$Act", "cancelled", "LAlarmTables$Alarm;", true)
def tyAct : Nat → FieldType := fun k => match k with
  | 0 => .object "AlarmTables$Counter"
  | _ => .object "AlarmTables$Alarm"
theorem nmAct : ∀ a, a < 2 → ∀ b, b < 2 → a ≠ b → (TAct a).2.1 ≠ (TAct b).2.1 := by decide +kernel
theorem tyAct_ok : ∀ k, k < 2 → parseFieldDescriptor (TAct k).2.2.1 = some (tyAct k) := by decide +kernel
def RAlarm : String := "AlarmTables$Alarm"
def TAlarm : u_T := fun k => match k with
  | 0 => ("AlarmTables$Alarm", "number", "I", true)
  | 1 => ("AlarmTables$Alarm", "counter", "LAlarmTables$Counter;", true)
  | 2 => ("AlarmTables$Alarm", "act", "LAlarmTables$Act;", true)
  | 3 => ("AlarmTables$Alarm", "isSet", "Z", false)
  | 4 => ("AlarmTables$Alarm", "due", "J", false)
  | 5 => ("AlarmTables$Alarm", "cycle", "J", false)
  | _ => ("AlarmTables$Alarm", "behind", "LAlarmTables$Alarm;", false)
def tyAlarm : Nat → FieldType := fun k => match k with
  | 0 => .int
  | 1 => .object "AlarmTables$Counter"
  | 2 => .object "AlarmTables$Act"
  | 3 => .boolean
  | 4 => .long
  | 5 => .long
  | _ => .object "AlarmTables$Alarm"
theorem nmAlarm : ∀ a, a < 7 → ∀ b, b < 7 → a ≠ b → (TAlarm a).2.1 ≠ (TAlarm b).2.1 := by decide +kernel
theorem tyAlarm_ok : ∀ k, k < 7 → parseFieldDescriptor (TAlarm k).2.2.1 = some (tyAlarm k) := by decide +kernel
def RCounter : String := "AlarmTables$Counter"
def TCounter : u_T := fun k => match k with
  | 0 => ("AlarmTables$Counter", "bit", "I", true)
  | 1 => ("AlarmTables$Counter", "base", "J", true)
  | 2 => ("AlarmTables$Counter", "ticksAStep", "J", true)
  | 3 => ("AlarmTables$Counter", "ticksKept", "J", false)
  | 4 => ("AlarmTables$Counter", "value", "J", false)
  | 5 => ("AlarmTables$Counter", "steps", "J", false)
  | 6 => ("AlarmTables$Counter", "wake", "J", false)
  | 7 => ("AlarmTables$Counter", "leadsTo", "I", false)
  | 8 => ("AlarmTables$Counter", "firstAlarm", "LAlarmTables$Alarm;", false)
  | 9 => ("AlarmTables$Counter", "lastAlarm", "LAlarmTables$Alarm;", false)
  | 10 => ("AlarmTables$Counter", "firstTable", "LAlarmTables$Table;", false)
  | _ => ("AlarmTables$Counter", "lastTable", "LAlarmTables$Table;", false)
def tyCounter : Nat → FieldType := fun k => match k with
  | 0 => .int
  | 1 => .long
  | 2 => .long
  | 3 => .long
  | 4 => .long
  | 5 => .long
  | 6 => .long
  | 7 => .int
  | 8 => .object "AlarmTables$Alarm"
  | 9 => .object "AlarmTables$Alarm"
  | 10 => .object "AlarmTables$Table"
  | _ => .object "AlarmTables$Table"
theorem nmCounter : ∀ a, a < 12 → ∀ b, b < 12 → a ≠ b → (TCounter a).2.1 ≠ (TCounter b).2.1 := by decide +kernel
theorem tyCounter_ok : ∀ k, k < 12 → parseFieldDescriptor (TCounter k).2.2.1 = some (tyCounter k) := by decide +kernel
def RNotes : String := "AlarmTables$Notes"
def TNotes : u_T := fun k => match k with
  | 0 => ("AlarmTables$Notes", "pages", "[LAlarmTables$Page;", true)
  | 1 => ("AlarmTables$Notes", "kept", "I", false)
  | _ => ("AlarmTables$Notes", "total", "I", false)
def tyNotes : Nat → FieldType := fun k => match k with
  | 0 => .array (.object "AlarmTables$Page")
  | 1 => .int
  | _ => .int
theorem nmNotes : ∀ a, a < 3 → ∀ b, b < 3 → a ≠ b → (TNotes a).2.1 ≠ (TNotes b).2.1 := by decide +kernel
theorem tyNotes_ok : ∀ k, k < 3 → parseFieldDescriptor (TNotes k).2.2.1 = some (tyNotes k) := by decide +kernel
def RPage : String := "AlarmTables$Page"
def TPage : u_T := fun k => match k with
  | _ => ("AlarmTables$Page", "cells", "[I", true)
def tyPage : Nat → FieldType := fun k => match k with
  | _ => .array .int
theorem nmPage : ∀ a, a < 1 → ∀ b, b < 1 → a ≠ b → (TPage a).2.1 ≠ (TPage b).2.1 := by decide +kernel
theorem tyPage_ok : ∀ k, k < 1 → parseFieldDescriptor (TPage k).2.2.1 = some (tyPage k) := by decide +kernel
def RPoint : String := "AlarmTables$Point"
def TPoint : u_T := fun k => match k with
  | 0 => ("AlarmTables$Point", "offset", "J", true)
  | 1 => ("AlarmTables$Point", "act", "LAlarmTables$Act;", true)
  | _ => ("AlarmTables$Point", "behind", "LAlarmTables$Point;", false)
def tyPoint : Nat → FieldType := fun k => match k with
  | 0 => .long
  | 1 => .object "AlarmTables$Act"
  | _ => .object "AlarmTables$Point"
theorem nmPoint : ∀ a, a < 3 → ∀ b, b < 3 → a ≠ b → (TPoint a).2.1 ≠ (TPoint b).2.1 := by decide +kernel
theorem tyPoint_ok : ∀ k, k < 3 → parseFieldDescriptor (TPoint k).2.2.1 = some (tyPoint k) := by decide +kernel
def RTable : String := "AlarmTables$Table"
def TTable : u_T := fun k => match k with
  | 0 => ("AlarmTables$Table", "number", "I", true)
  | 1 => ("AlarmTables$Table", "counter", "LAlarmTables$Counter;", true)
  | 2 => ("AlarmTables$Table", "length", "J", true)
  | 3 => ("AlarmTables$Table", "firstPoint", "LAlarmTables$Point;", false)
  | 4 => ("AlarmTables$Table", "pointCount", "I", false)
  | 5 => ("AlarmTables$Table", "runs", "Z", false)
  | 6 => ("AlarmTables$Table", "begun", "Z", false)
  | 7 => ("AlarmTables$Table", "due", "J", false)
  | 8 => ("AlarmTables$Table", "coming", "LAlarmTables$Point;", false)
  | 9 => ("AlarmTables$Table", "drift", "J", false)
  | 10 => ("AlarmTables$Table", "told", "LAlarmTables$Table;", false)
  | _ => ("AlarmTables$Table", "behind", "LAlarmTables$Table;", false)
def tyTable : Nat → FieldType := fun k => match k with
  | 0 => .int
  | 1 => .object "AlarmTables$Counter"
  | 2 => .long
  | 3 => .object "AlarmTables$Point"
  | 4 => .int
  | 5 => .boolean
  | 6 => .boolean
  | 7 => .long
  | 8 => .object "AlarmTables$Point"
  | 9 => .long
  | 10 => .object "AlarmTables$Table"
  | _ => .object "AlarmTables$Table"
theorem nmTable : ∀ a, a < 12 → ∀ b, b < 12 → a ≠ b → (TTable a).2.1 ≠ (TTable b).2.1 := by decide +kernel
theorem tyTable_ok : ∀ k, k < 12 → parseFieldDescriptor (TTable k).2.2.1 = some (tyTable k) := by decide +kernel
def RAT : String := "AlarmTables"
def TAT : u_T := fun k => match k with
  | 0 => ("AlarmTables", "counters", "[LAlarmTables$Counter;", true)
  | 1 => ("AlarmTables", "alarms", "[LAlarmTables$Alarm;", true)
  | 2 => ("AlarmTables", "tables", "[LAlarmTables$Table;", true)
  | 3 => ("AlarmTables", "notes", "LAlarmTables$Notes;", true)
  | 4 => ("AlarmTables", "counterCount", "I", false)
  | 5 => ("AlarmTables", "alarmCount", "I", false)
  | 6 => ("AlarmTables", "tableCount", "I", false)
  | _ => ("AlarmTables", "actSteps", "I", false)
def tyAT : Nat → FieldType := fun k => match k with
  | 0 => .array (.object "AlarmTables$Counter")
  | 1 => .array (.object "AlarmTables$Alarm")
  | 2 => .array (.object "AlarmTables$Table")
  | 3 => .object "AlarmTables$Notes"
  | 4 => .int
  | 5 => .int
  | 6 => .int
  | _ => .int
theorem nmAT : ∀ a, a < 8 → ∀ b, b < 8 → a ≠ b → (TAT a).2.1 ≠ (TAT b).2.1 := by decide +kernel
theorem tyAT_ok : ∀ k, k < 8 → parseFieldDescriptor (TAT k).2.2.1 = some (tyAT k) := by decide +kernel
def RMod : String := "AlarmTablesModel"
def TMod : u_T := fun k => match k with
  | 0 => ("AlarmTablesModel", "code", "I", false)
  | 1 => ("AlarmTablesModel", "counters", "I", false)
  | 2 => ("AlarmTablesModel", "base", "[J", true)
  | 3 => ("AlarmTablesModel", "ticks", "[J", true)
  | 4 => ("AlarmTablesModel", "rest", "[J", true)
  | 5 => ("AlarmTablesModel", "steps", "[J", true)
  | 6 => ("AlarmTablesModel", "leads", "[Z", true)
  | 7 => ("AlarmTablesModel", "seen", "[Z", true)
  | 8 => ("AlarmTablesModel", "alarms", "I", false)
  | 9 => ("AlarmTablesModel", "alarmOn", "[I", true)
  | 10 => ("AlarmTablesModel", "alarmAct", "[I", true)
  | 11 => ("AlarmTablesModel", "alarmOf", "[I", true)
  | 12 => ("AlarmTablesModel", "isSet", "[Z", true)
  | 13 => ("AlarmTablesModel", "alarmDue", "[J", true)
  | 14 => ("AlarmTablesModel", "cycle", "[J", true)
  | 15 => ("AlarmTablesModel", "tables", "I", false)
  | 16 => ("AlarmTablesModel", "tableOn", "[I", true)
  | 17 => ("AlarmTablesModel", "length", "[J", true)
  | 18 => ("AlarmTablesModel", "points", "[I", true)
  | 19 => ("AlarmTablesModel", "offset", "[J", true)
  | 20 => ("AlarmTablesModel", "act", "[I", true)
  | 21 => ("AlarmTablesModel", "next", "[I", true)
  | 22 => ("AlarmTablesModel", "deviation", "[J", true)
  | 23 => ("AlarmTablesModel", "runs", "[Z", true)
  | 24 => ("AlarmTablesModel", "due", "[J", true)
  | 25 => ("AlarmTablesModel", "place", "[I", true)
  | 26 => ("AlarmTablesModel", "expired", "I", false)
  | 27 => ("AlarmTablesModel", "kind", "[I", true)
  | 28 => ("AlarmTablesModel", "number", "[I", true)
  | 29 => ("AlarmTablesModel", "where", "[I", true)
  | 30 => ("AlarmTablesModel", "value", "[I", true)
  | 31 => ("AlarmTablesModel", "acted", "I", false)
  | 32 => ("AlarmTablesModel", "deep", "I", false)
  | 33 => ("AlarmTablesModel", "stepped", "[I", true)
  | _ => ("AlarmTablesModel", "goesOn", "[I", true)
def tyMod : Nat → FieldType := fun k => match k with
  | 0 => .int
  | 1 => .int
  | 2 => .array .long
  | 3 => .array .long
  | 4 => .array .long
  | 5 => .array .long
  | 6 => .array .boolean
  | 7 => .array .boolean
  | 8 => .int
  | 9 => .array .int
  | 10 => .array .int
  | 11 => .array .int
  | 12 => .array .boolean
  | 13 => .array .long
  | 14 => .array .long
  | 15 => .int
  | 16 => .array .int
  | 17 => .array .long
  | 18 => .array .int
  | 19 => .array .long
  | 20 => .array .int
  | 21 => .array .int
  | 22 => .array .long
  | 23 => .array .boolean
  | 24 => .array .long
  | 25 => .array .int
  | 26 => .int
  | 27 => .array .int
  | 28 => .array .int
  | 29 => .array .int
  | 30 => .array .int
  | 31 => .int
  | 32 => .int
  | 33 => .array .int
  | _ => .array .int
theorem nmMod : ∀ a, a < 35 → ∀ b, b < 35 → a ≠ b → (TMod a).2.1 ≠ (TMod b).2.1 := by decide +kernel
theorem tyMod_ok : ∀ k, k < 35 → parseFieldDescriptor (TMod k).2.2.1 = some (tyMod k) := by decide +kernel
def RLaw : String := "AlarmTablesLaw"
abbrev vwCl : List vw_C := [(RAct, TAct, 2), (RAlarm, TAlarm, 7), (RCounter, TCounter, 12), (RNotes, TNotes, 3), (RPage, TPage, 1), (RPoint, TPoint, 3), (RTable, TTable, 12), (RAT, TAT, 8), (RMod, TMod, 35)]
abbrev cAct_init : ByteArray := prog_2_method_1_code
def yAct_init : MethodName := ⟨RAct, "<init>", "(LAlarmTables$Counter;LAlarmTables$Alarm;)V"⟩
abbrev cAlarm_init : ByteArray := prog_3_method_1_code
def yAlarm_init : MethodName := ⟨RAlarm, "<init>", "(ILAlarmTables$Counter;LAlarmTables$Act;)V"⟩
abbrev cAlarm_becomeDue : ByteArray := prog_3_method_2_code
def yAlarm_becomeDue : MethodName := ⟨RAlarm, "becomeDue", "(J)V"⟩
abbrev cCounter_init : ByteArray := prog_4_method_1_code
def yCounter_init : MethodName := ⟨RCounter, "<init>", "(IJJ)V"⟩
abbrev cCounter_wakeAt : ByteArray := prog_4_method_2_code
def yCounter_wakeAt : MethodName := ⟨RCounter, "wakeAt", "(J)V"⟩
abbrev cCounter_advance : ByteArray := prog_4_method_3_code
def yCounter_advance : MethodName := ⟨RCounter, "advance", "()V"⟩
abbrev cCounter_stepsUntil : ByteArray := prog_4_method_4_code
def yCounter_stepsUntil : MethodName := ⟨RCounter, "stepsUntil", "(J)J"⟩
abbrev cCounter_appendAlarm : ByteArray := prog_4_method_5_code
def yCounter_appendAlarm : MethodName := ⟨RCounter, "appendAlarm", "(LAlarmTables$Alarm;)V"⟩
abbrev cCounter_appendTable : ByteArray := prog_4_method_6_code
def yCounter_appendTable : MethodName := ⟨RCounter, "appendTable", "(LAlarmTables$Table;)V"⟩
abbrev cNotes_init : ByteArray := prog_5_method_1_code
def yNotes_init : MethodName := ⟨RNotes, "<init>", "()V"⟩
abbrev cNotes_add : ByteArray := prog_5_method_2_code
def yNotes_add : MethodName := ⟨RNotes, "add", "(IIJJ)V"⟩
abbrev cNotes_has : ByteArray := prog_5_method_3_code
def yNotes_has : MethodName := ⟨RNotes, "has", "(I)Z"⟩
abbrev cNotes_read : ByteArray := prog_5_method_4_code
def yNotes_read : MethodName := ⟨RNotes, "read", "(II)I"⟩
abbrev cPage_init : ByteArray := prog_6_method_1_code
def yPage_init : MethodName := ⟨RPage, "<init>", "()V"⟩
abbrev cPage_write : ByteArray := prog_6_method_2_code
def yPage_write : MethodName := ⟨RPage, "write", "(IIIJJ)V"⟩
abbrev cPoint_init : ByteArray := prog_7_method_1_code
def yPoint_init : MethodName := ⟨RPoint, "<init>", "(JLAlarmTables$Act;)V"⟩
abbrev cTable_init : ByteArray := prog_8_method_1_code
def yTable_init : MethodName := ⟨RTable, "<init>", "(ILAlarmTables$Counter;J)V"⟩
abbrev cTable_pointBefore : ByteArray := prog_8_method_2_code
def yTable_pointBefore : MethodName := ⟨RTable, "pointBefore", "(J)LAlarmTables$Point;"⟩
abbrev cTable_hasPointAt : ByteArray := prog_8_method_3_code
def yTable_hasPointAt : MethodName := ⟨RTable, "hasPointAt", "(J)Z"⟩
abbrev cTable_insert : ByteArray := prog_8_method_4_code
def yTable_insert : MethodName := ⟨RTable, "insert", "(LAlarmTables$Point;)V"⟩
abbrev cTable_runFrom : ByteArray := prog_8_method_5_code
def yTable_runFrom : MethodName := ⟨RTable, "runFrom", "(J)V"⟩
abbrev cTable_goOn : ByteArray := prog_8_method_6_code
def yTable_goOn : MethodName := ⟨RTable, "goOn", "(JLAlarmTables$Point;)V"⟩
abbrev cAT_init : ByteArray := prog_1_method_1_code
def yAT_init : MethodName := ⟨RAT, "<init>", "()V"⟩
abbrev cAT_counter : ByteArray := prog_1_method_2_code
def yAT_counter : MethodName := ⟨RAT, "counter", "(JJ)I"⟩
abbrev cAT_alarm : ByteArray := prog_1_method_3_code
def yAT_alarm : MethodName := ⟨RAT, "alarm", "(III)I"⟩
abbrev cAT_set : ByteArray := prog_1_method_4_code
def yAT_set : MethodName := ⟨RAT, "set", "(IJJZ)I"⟩
abbrev cAT_cancel : ByteArray := prog_1_method_5_code
def yAT_cancel : MethodName := ⟨RAT, "cancel", "(I)I"⟩
abbrev cAT_table : ByteArray := prog_1_method_6_code
def yAT_table : MethodName := ⟨RAT, "table", "(IJ)I"⟩
abbrev cAT_point : ByteArray := prog_1_method_7_code
def yAT_point : MethodName := ⟨RAT, "point", "(IJI)I"⟩
abbrev cAT_start : ByteArray := prog_1_method_8_code
def yAT_start : MethodName := ⟨RAT, "start", "(IJ)I"⟩
abbrev cAT_next : ByteArray := prog_1_method_9_code
def yAT_next : MethodName := ⟨RAT, "next", "(II)I"⟩
abbrev cAT_sync : ByteArray := prog_1_method_10_code
def yAT_sync : MethodName := ⟨RAT, "sync", "(IJ)I"⟩
abbrev cAT_tick : ByteArray := prog_1_method_11_code
def yAT_tick : MethodName := ⟨RAT, "tick", "(IJ)I"⟩
abbrev cAT_expired : ByteArray := prog_1_method_12_code
def yAT_expired : MethodName := ⟨RAT, "expired", "(II)I"⟩
abbrev cAT_deviation : ByteArray := prog_1_method_13_code
def yAT_deviation : MethodName := ⟨RAT, "deviation", "(I)J"⟩
abbrev cAT_findCounter : ByteArray := prog_1_method_14_code
def yAT_findCounter : MethodName := ⟨RAT, "findCounter", "(I)LAlarmTables$Counter;"⟩
abbrev cAT_findAlarm : ByteArray := prog_1_method_15_code
def yAT_findAlarm : MethodName := ⟨RAT, "findAlarm", "(I)LAlarmTables$Alarm;"⟩
abbrev cAT_findTable : ByteArray := prog_1_method_16_code
def yAT_findTable : MethodName := ⟨RAT, "findTable", "(I)LAlarmTables$Table;"⟩
abbrev cAT_isUnknownFor : ByteArray := prog_1_method_17_code
def yAT_isUnknownFor : MethodName := ⟨RAT, "isUnknownFor", "(II)Z"⟩
abbrev cAT_wouldCircle : ByteArray := prog_1_method_18_code
def yAT_wouldCircle : MethodName := ⟨RAT, "wouldCircle", "(LAlarmTables$Counter;LAlarmTables$Counter;)Z"⟩
abbrev cAT_link : ByteArray := prog_1_method_19_code
def yAT_link : MethodName := ⟨RAT, "link", "(LAlarmTables$Counter;LAlarmTables$Counter;)V"⟩
abbrev cAT_makeStep : ByteArray := prog_1_method_20_code
def yAT_makeStep : MethodName := ⟨RAT, "makeStep", "(LAlarmTables$Counter;I)V"⟩
abbrev cAT_takeAlarmTurn : ByteArray := prog_1_method_21_code
def yAT_takeAlarmTurn : MethodName := ⟨RAT, "takeAlarmTurn", "(LAlarmTables$Alarm;I)V"⟩
abbrev cAT_takeTableTurn : ByteArray := prog_1_method_22_code
def yAT_takeTableTurn : MethodName := ⟨RAT, "takeTableTurn", "(LAlarmTables$Table;I)V"⟩
abbrev cAT_goThrough : ByteArray := prog_1_method_23_code
def yAT_goThrough : MethodName := ⟨RAT, "goThrough", "(LAlarmTables$Table;I)LAlarmTables$Table;"⟩
abbrev cAT_giveOver : ByteArray := prog_1_method_24_code
def yAT_giveOver : MethodName := ⟨RAT, "giveOver", "(LAlarmTables$Table;)LAlarmTables$Table;"⟩
abbrev cAT_perform : ByteArray := prog_1_method_25_code
def yAT_perform : MethodName := ⟨RAT, "perform", "(LAlarmTables$Act;I)V"⟩
abbrev cMod_init : ByteArray := prog_10_method_1_code
def yMod_init : MethodName := ⟨RMod, "<init>", "()V"⟩
abbrev cMod_thrown : ByteArray := prog_10_method_2_code
def yMod_thrown : MethodName := ⟨RMod, "thrown", "()I"⟩
abbrev cMod_no : ByteArray := prog_10_method_3_code
def yMod_no : MethodName := ⟨RMod, "no", "(I)Z"⟩
abbrev cMod_noAlarm : ByteArray := prog_10_method_4_code
def yMod_noAlarm : MethodName := ⟨RMod, "noAlarm", "(I)Z"⟩
abbrev cMod_noTable : ByteArray := prog_10_method_5_code
def yMod_noTable : MethodName := ⟨RMod, "noTable", "(I)Z"⟩
abbrev cMod_counter : ByteArray := prog_10_method_6_code
def yMod_counter : MethodName := ⟨RMod, "counter", "(JJ)I"⟩
abbrev cMod_leadsTo : ByteArray := prog_10_method_7_code
def yMod_leadsTo : MethodName := ⟨RMod, "leadsTo", "(II)Z"⟩
abbrev cMod_alarm : ByteArray := prog_10_method_8_code
def yMod_alarm : MethodName := ⟨RMod, "alarm", "(III)I"⟩
abbrev cMod_set : ByteArray := prog_10_method_9_code
def yMod_set : MethodName := ⟨RMod, "set", "(IJJZ)I"⟩
abbrev cMod_cancel : ByteArray := prog_10_method_10_code
def yMod_cancel : MethodName := ⟨RMod, "cancel", "(I)I"⟩
abbrev cMod_table : ByteArray := prog_10_method_11_code
def yMod_table : MethodName := ⟨RMod, "table", "(IJ)I"⟩
abbrev cMod_point : ByteArray := prog_10_method_12_code
def yMod_point : MethodName := ⟨RMod, "point", "(IJI)I"⟩
abbrev cMod_start : ByteArray := prog_10_method_13_code
def yMod_start : MethodName := ⟨RMod, "start", "(IJ)I"⟩
abbrev cMod_next : ByteArray := prog_10_method_14_code
def yMod_next : MethodName := ⟨RMod, "next", "(II)I"⟩
abbrev cMod_sync : ByteArray := prog_10_method_15_code
def yMod_sync : MethodName := ⟨RMod, "sync", "(IJ)I"⟩
abbrev cMod_note : ByteArray := prog_10_method_16_code
def yMod_note : MethodName := ⟨RMod, "note", "(IIJI)V"⟩
abbrev cMod_makeStep : ByteArray := prog_10_method_17_code
def yMod_makeStep : MethodName := ⟨RMod, "makeStep", "(I)V"⟩
abbrev cMod_byAct : ByteArray := prog_10_method_18_code
def yMod_byAct : MethodName := ⟨RMod, "byAct", "(I)V"⟩
abbrev cMod_goOn : ByteArray := prog_10_method_19_code
def yMod_goOn : MethodName := ⟨RMod, "goOn", "(IJ)Z"⟩
abbrev cMod_tableGoes : ByteArray := prog_10_method_20_code
def yMod_tableGoes : MethodName := ⟨RMod, "tableGoes", "(I)I"⟩
abbrev cMod_goTable : ByteArray := prog_10_method_21_code
def yMod_goTable : MethodName := ⟨RMod, "goTable", "(II)V"⟩
abbrev cMod_goAlarm : ByteArray := prog_10_method_22_code
def yMod_goAlarm : MethodName := ⟨RMod, "goAlarm", "(I)V"⟩
abbrev cMod_go : ByteArray := prog_10_method_23_code
def yMod_go : MethodName := ⟨RMod, "go", "()V"⟩
abbrev cMod_tick : ByteArray := prog_10_method_24_code
def yMod_tick : MethodName := ⟨RMod, "tick", "(IJ)I"⟩
abbrev cMod_expired : ByteArray := prog_10_method_25_code
def yMod_expired : MethodName := ⟨RMod, "expired", "(II)I"⟩
abbrev cMod_deviation : ByteArray := prog_10_method_26_code
def yMod_deviation : MethodName := ⟨RMod, "deviation", "(I)J"⟩
/-- the links to private constructors of nest mates, the arrays of references that can be made -/
def NX (U : State) : Prop := va_Nw (.methodLinkNest RAT 29 yNotes_init "AlarmTables") U ∧ va_Nw (.methodLinkNest RNotes 24 yPage_init "AlarmTables") U ∧ va_AO RCounter U ∧ va_AO RAlarm U ∧ va_AO RTable U ∧ va_AO RPage U
theorem NX.warm {s U : State} (hW : s.WarmedH U.vm) (h : NX s) : NX U := ⟨va_Nw.warmM hW h.1, va_Nw.warmM hW h.2.1, va_AO.moved hW.alike h.2.2.1, va_AO.moved hW.alike h.2.2.2.1, va_AO.moved hW.alike h.2.2.2.2.1, va_AO.moved hW.alike h.2.2.2.2.2⟩
theorem NX.same {u U : State} (e : u.vm = U.vm) (h : NX u) : NX U := ⟨va_Nw.same rfl e h.1, va_Nw.same rfl e h.2.1, va_AO.moved (by rw [e]; exact Vm.Alike.refl _) h.2.2.1, va_AO.moved (by rw [e]; exact Vm.Alike.refl _) h.2.2.2.1, va_AO.moved (by rw [e]; exact Vm.Alike.refl _) h.2.2.2.2.1, va_AO.moved (by rw [e]; exact Vm.Alike.refl _) h.2.2.2.2.2⟩
def aK (K : Nat) : Nat := match K with
  | 11 => 1
  | 12 => 2
  | 13 => 1
  | 14 => 3
  | 15 => 3
  | 16 => 3
  | 17 => 3
  | _ => 0
def aE (K : Nat) : Nat := match K with
  | 14 => 3
  | 15 => 2
  | 16 => 7
  | 17 => 5
  | _ => 0
def lay (K : Nat) : List (Nat × Nat) := match K with
  | 1 => [(2, 0), (2, 1)]
  | 2 => [(0, 0), (2, 2), (2, 3), (0, 1), (1, 0), (1, 1), (2, 4)]
  | 3 => [(0, 2), (1, 2), (1, 3), (1, 4), (1, 5), (1, 6), (1, 7), (0, 3), (2, 5), (2, 6), (2, 7), (2, 8)]
  | 4 => [(2, 9), (0, 4), (0, 5)]
  | 5 => [(2, 10)]
  | 6 => [(1, 8), (2, 11), (2, 12)]
  | 7 => [(0, 6), (2, 13), (1, 9), (2, 14), (0, 7), (0, 8), (0, 9), (1, 10), (2, 15), (1, 11), (2, 16), (2, 17)]
  | 8 => [(2, 18), (2, 19), (2, 20), (2, 21), (0, 10), (0, 11), (0, 12), (0, 13)]
  | 9 => [(0, 14), (0, 15), (2, 22), (2, 23), (2, 24), (2, 25), (2, 26), (2, 27), (0, 16), (2, 28), (2, 29), (2, 30), (2, 31), (2, 32), (2, 33), (0, 17), (2, 34), (2, 35), (2, 36), (2, 37), (2, 38), (2, 39), (2, 40), (2, 41), (2, 42), (2, 43), (0, 18), (2, 44), (2, 45), (2, 46), (2, 47), (0, 19), (0, 20), (2, 48), (2, 49)]
  | _ => []
def rO (k : Nat) : Nat := match k with
  | 0 => 1
  | 1 => 1
  | 2 => 2
  | 3 => 2
  | 4 => 2
  | 5 => 3
  | 6 => 3
  | 7 => 3
  | 8 => 3
  | 9 => 4
  | 10 => 5
  | 11 => 6
  | 12 => 6
  | 13 => 7
  | 14 => 7
  | 15 => 7
  | 16 => 7
  | 17 => 7
  | 18 => 8
  | 19 => 8
  | 20 => 8
  | 21 => 8
  | 22 => 9
  | 23 => 9
  | 24 => 9
  | 25 => 9
  | 26 => 9
  | 27 => 9
  | 28 => 9
  | 29 => 9
  | 30 => 9
  | 31 => 9
  | 32 => 9
  | 33 => 9
  | 34 => 9
  | 35 => 9
  | 36 => 9
  | 37 => 9
  | 38 => 9
  | 39 => 9
  | 40 => 9
  | 41 => 9
  | 42 => 9
  | 43 => 9
  | 44 => 9
  | 45 => 9
  | 46 => 9
  | 47 => 9
  | 48 => 9
  | 49 => 9
  | _ => 99
def rT (k : Nat) : Nat := match k with
  | 0 => 3
  | 1 => 2
  | 2 => 3
  | 3 => 1
  | 4 => 2
  | 5 => 2
  | 6 => 2
  | 7 => 7
  | 8 => 7
  | 9 => 17
  | 10 => 11
  | 11 => 1
  | 12 => 6
  | 13 => 3
  | 14 => 6
  | 15 => 6
  | 16 => 7
  | 17 => 7
  | 18 => 14
  | 19 => 15
  | 20 => 16
  | 21 => 4
  | 22 => 12
  | 23 => 12
  | 24 => 12
  | 25 => 12
  | 26 => 13
  | 27 => 13
  | 28 => 11
  | 29 => 11
  | 30 => 11
  | 31 => 13
  | 32 => 12
  | 33 => 12
  | 34 => 11
  | 35 => 12
  | 36 => 11
  | 37 => 12
  | 38 => 11
  | 39 => 11
  | 40 => 12
  | 41 => 13
  | 42 => 12
  | 43 => 11
  | 44 => 11
  | 45 => 11
  | 46 => 11
  | 47 => 11
  | 48 => 11
  | 49 => 11
  | _ => 99
theorem rO_ne (k : Nat) : rO k ≠ 0 := by unfold rO; split <;> decide
theorem rT_ne (k : Nat) : rT k ≠ 0 := by unfold rT; split <;> decide
theorem rO_obj (k : Nat) (K : Nat) (h1 : 10 ≤ K) (h2 : K ≤ 20) : rO k ≠ K := by unfold rO; split <;> omega
def aTys (AC : Nat → ClassId) : List (ClassId × FieldType) := [(AC 11, .int), (AC 12, .long), (AC 13, .boolean), (AC 14, .object "AlarmTables$Counter"), (AC 15, .object "AlarmTables$Alarm"), (AC 16, .object "AlarmTables$Table"), (AC 17, .object "AlarmTables$Page")]
