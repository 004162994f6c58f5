section
-- ===== PART A: goes FIRST, ahead of the names: the tables' words, and 'selects' of the private methods out of them =====
/-- a private method of a class that the tables say can be made, by its rows of tables_1 -/
def lw_okq (q : MethodName × Nat) : Prop := (q.1.cls ≠ "java/lang/invoke/MethodHandle" ∧ q.1.cls ≠ "java/lang/invoke/VarHandle") ∧ Cond.instantiable q.1.cls q.2 ∈ tables_1 ∧ Cond.privateMethod q.1 ∈ tables_1 ∧ Cond.instanceMethod q.1 ∈ tables_1
theorem lw_p0 : lw_okq (⟨"AlarmTables", "findCounter", "(I)LAlarmTables$Counter;"⟩, 8) := ⟨⟨by decide +kernel, by decide +kernel⟩, List.mem_of_getElem? (i := 16) (by decide +kernel), List.mem_of_getElem? (i := 78) (by decide +kernel), List.mem_of_getElem? (i := 79) (by decide +kernel)⟩
theorem lw_p1 : lw_okq (⟨"AlarmTables", "isUnknownFor", "(II)Z"⟩, 8) := ⟨⟨by decide +kernel, by decide +kernel⟩, List.mem_of_getElem? (i := 16) (by decide +kernel), List.mem_of_getElem? (i := 82) (by decide +kernel), List.mem_of_getElem? (i := 83) (by decide +kernel)⟩
theorem lw_p2 : lw_okq (⟨"AlarmTables", "findAlarm", "(I)LAlarmTables$Alarm;"⟩, 8) := ⟨⟨by decide +kernel, by decide +kernel⟩, List.mem_of_getElem? (i := 16) (by decide +kernel), List.mem_of_getElem? (i := 86) (by decide +kernel), List.mem_of_getElem? (i := 87) (by decide +kernel)⟩
theorem lw_p3 : lw_okq (⟨"AlarmTables", "link", "(LAlarmTables$Counter;LAlarmTables$Counter;)V"⟩, 8) := ⟨⟨by decide +kernel, by decide +kernel⟩, List.mem_of_getElem? (i := 16) (by decide +kernel), List.mem_of_getElem? (i := 144) (by decide +kernel), List.mem_of_getElem? (i := 145) (by decide +kernel)⟩
theorem lw_p4 : lw_okq (⟨"AlarmTables", "findTable", "(I)LAlarmTables$Table;"⟩, 8) := ⟨⟨by decide +kernel, by decide +kernel⟩, List.mem_of_getElem? (i := 16) (by decide +kernel), List.mem_of_getElem? (i := 238) (by decide +kernel), List.mem_of_getElem? (i := 239) (by decide +kernel)⟩
theorem lw_p5 : lw_okq (⟨"AlarmTables", "makeStep", "(LAlarmTables$Counter;I)V"⟩, 8) := ⟨⟨by decide +kernel, by decide +kernel⟩, List.mem_of_getElem? (i := 16) (by decide +kernel), List.mem_of_getElem? (i := 299) (by decide +kernel), List.mem_of_getElem? (i := 300) (by decide +kernel)⟩
theorem lw_p6 : lw_okq (⟨"AlarmTables", "takeAlarmTurn", "(LAlarmTables$Alarm;I)V"⟩, 8) := ⟨⟨by decide +kernel, by decide +kernel⟩, List.mem_of_getElem? (i := 16) (by decide +kernel), List.mem_of_getElem? (i := 308) (by decide +kernel), List.mem_of_getElem? (i := 309) (by decide +kernel)⟩
theorem lw_p7 : lw_okq (⟨"AlarmTables", "perform", "(LAlarmTables$Act;I)V"⟩, 8) := ⟨⟨by decide +kernel, by decide +kernel⟩, List.mem_of_getElem? (i := 16) (by decide +kernel), List.mem_of_getElem? (i := 331) (by decide +kernel), List.mem_of_getElem? (i := 332) (by decide +kernel)⟩
theorem lw_p8 : lw_okq (⟨"AlarmTables", "takeTableTurn", "(LAlarmTables$Table;I)V"⟩, 8) := ⟨⟨by decide +kernel, by decide +kernel⟩, List.mem_of_getElem? (i := 16) (by decide +kernel), List.mem_of_getElem? (i := 335) (by decide +kernel), List.mem_of_getElem? (i := 336) (by decide +kernel)⟩
theorem lw_p9 : lw_okq (⟨"AlarmTables", "goThrough", "(LAlarmTables$Table;I)LAlarmTables$Table;"⟩, 8) := ⟨⟨by decide +kernel, by decide +kernel⟩, List.mem_of_getElem? (i := 16) (by decide +kernel), List.mem_of_getElem? (i := 339) (by decide +kernel), List.mem_of_getElem? (i := 340) (by decide +kernel)⟩
theorem lw_p10 : lw_okq (⟨"AlarmTables", "giveOver", "(LAlarmTables$Table;)LAlarmTables$Table;"⟩, 8) := ⟨⟨by decide +kernel, by decide +kernel⟩, List.mem_of_getElem? (i := 16) (by decide +kernel), List.mem_of_getElem? (i := 354) (by decide +kernel), List.mem_of_getElem? (i := 355) (by decide +kernel)⟩
theorem lw_p11 : lw_okq (⟨"java/lang/Throwable", "fillInStackTrace", "(I)Ljava/lang/Throwable;"⟩, 6) := ⟨⟨by decide +kernel, by decide +kernel⟩, List.mem_of_getElem? (i := 419) (by decide +kernel), List.mem_of_getElem? (i := 417) (by decide +kernel), List.mem_of_getElem? (i := 418) (by decide +kernel)⟩
theorem lw_p12 : lw_okq (⟨"AlarmTablesModel", "no", "(I)Z"⟩, 35) := ⟨⟨by decide +kernel, by decide +kernel⟩, List.mem_of_getElem? (i := 502) (by decide +kernel), List.mem_of_getElem? (i := 630) (by decide +kernel), List.mem_of_getElem? (i := 631) (by decide +kernel)⟩
theorem lw_p13 : lw_okq (⟨"AlarmTablesModel", "noAlarm", "(I)Z"⟩, 35) := ⟨⟨by decide +kernel, by decide +kernel⟩, List.mem_of_getElem? (i := 502) (by decide +kernel), List.mem_of_getElem? (i := 634) (by decide +kernel), List.mem_of_getElem? (i := 635) (by decide +kernel)⟩
theorem lw_p14 : lw_okq (⟨"AlarmTablesModel", "leadsTo", "(II)Z"⟩, 35) := ⟨⟨by decide +kernel, by decide +kernel⟩, List.mem_of_getElem? (i := 502) (by decide +kernel), List.mem_of_getElem? (i := 638) (by decide +kernel), List.mem_of_getElem? (i := 639) (by decide +kernel)⟩
theorem lw_p15 : lw_okq (⟨"AlarmTablesModel", "noTable", "(I)Z"⟩, 35) := ⟨⟨by decide +kernel, by decide +kernel⟩, List.mem_of_getElem? (i := 502) (by decide +kernel), List.mem_of_getElem? (i := 660) (by decide +kernel), List.mem_of_getElem? (i := 661) (by decide +kernel)⟩
def lw_privs_1 : List (MethodName × Nat) := [(⟨"AlarmTables", "findCounter", "(I)LAlarmTables$Counter;"⟩, 8), (⟨"AlarmTables", "isUnknownFor", "(II)Z"⟩, 8), (⟨"AlarmTables", "findAlarm", "(I)LAlarmTables$Alarm;"⟩, 8), (⟨"AlarmTables", "link", "(LAlarmTables$Counter;LAlarmTables$Counter;)V"⟩, 8), (⟨"AlarmTables", "findTable", "(I)LAlarmTables$Table;"⟩, 8), (⟨"AlarmTables", "makeStep", "(LAlarmTables$Counter;I)V"⟩, 8), (⟨"AlarmTables", "takeAlarmTurn", "(LAlarmTables$Alarm;I)V"⟩, 8), (⟨"AlarmTables", "perform", "(LAlarmTables$Act;I)V"⟩, 8), (⟨"AlarmTables", "takeTableTurn", "(LAlarmTables$Table;I)V"⟩, 8), (⟨"AlarmTables", "goThrough", "(LAlarmTables$Table;I)LAlarmTables$Table;"⟩, 8), (⟨"AlarmTables", "giveOver", "(LAlarmTables$Table;)LAlarmTables$Table;"⟩, 8), (⟨"java/lang/Throwable", "fillInStackTrace", "(I)Ljava/lang/Throwable;"⟩, 6), (⟨"AlarmTablesModel", "no", "(I)Z"⟩, 35), (⟨"AlarmTablesModel", "noAlarm", "(I)Z"⟩, 35), (⟨"AlarmTablesModel", "leadsTo", "(II)Z"⟩, 35), (⟨"AlarmTablesModel", "noTable", "(I)Z"⟩, 35)]
theorem lw_r1 : ∀ q ∈ lw_privs_1, lw_okq q := List.forall_mem_cons.mpr ⟨lw_p0, List.forall_mem_cons.mpr ⟨lw_p1, List.forall_mem_cons.mpr ⟨lw_p2, List.forall_mem_cons.mpr ⟨lw_p3, List.forall_mem_cons.mpr ⟨lw_p4, List.forall_mem_cons.mpr ⟨lw_p5, List.forall_mem_cons.mpr ⟨lw_p6, List.forall_mem_cons.mpr ⟨lw_p7, List.forall_mem_cons.mpr ⟨lw_p8, List.forall_mem_cons.mpr ⟨lw_p9, List.forall_mem_cons.mpr ⟨lw_p10, List.forall_mem_cons.mpr ⟨lw_p11, List.forall_mem_cons.mpr ⟨lw_p12, List.forall_mem_cons.mpr ⟨lw_p13, List.forall_mem_cons.mpr ⟨lw_p14, List.forall_mem_cons.mpr ⟨lw_p15, fun _ h => absurd h List.not_mem_nil⟩⟩⟩⟩⟩⟩⟩⟩⟩⟩⟩⟩⟩⟩⟩⟩
theorem lw_p16 : lw_okq (⟨"AlarmTablesModel", "makeStep", "(I)V"⟩, 35) := ⟨⟨by decide +kernel, by decide +kernel⟩, List.mem_of_getElem? (i := 502) (by decide +kernel), List.mem_of_getElem? (i := 685) (by decide +kernel), List.mem_of_getElem? (i := 686) (by decide +kernel)⟩
theorem lw_p17 : lw_okq (⟨"AlarmTablesModel", "go", "()V"⟩, 35) := ⟨⟨by decide +kernel, by decide +kernel⟩, List.mem_of_getElem? (i := 502) (by decide +kernel), List.mem_of_getElem? (i := 689) (by decide +kernel), List.mem_of_getElem? (i := 690) (by decide +kernel)⟩
theorem lw_p18 : lw_okq (⟨"AlarmTablesModel", "goTable", "(II)V"⟩, 35) := ⟨⟨by decide +kernel, by decide +kernel⟩, List.mem_of_getElem? (i := 502) (by decide +kernel), List.mem_of_getElem? (i := 693) (by decide +kernel), List.mem_of_getElem? (i := 694) (by decide +kernel)⟩
theorem lw_p19 : lw_okq (⟨"AlarmTablesModel", "tableGoes", "(I)I"⟩, 35) := ⟨⟨by decide +kernel, by decide +kernel⟩, List.mem_of_getElem? (i := 502) (by decide +kernel), List.mem_of_getElem? (i := 697) (by decide +kernel), List.mem_of_getElem? (i := 698) (by decide +kernel)⟩
theorem lw_p20 : lw_okq (⟨"AlarmTablesModel", "goOn", "(IJ)Z"⟩, 35) := ⟨⟨by decide +kernel, by decide +kernel⟩, List.mem_of_getElem? (i := 502) (by decide +kernel), List.mem_of_getElem? (i := 701) (by decide +kernel), List.mem_of_getElem? (i := 702) (by decide +kernel)⟩
theorem lw_p21 : lw_okq (⟨"AlarmTablesModel", "note", "(IIJI)V"⟩, 35) := ⟨⟨by decide +kernel, by decide +kernel⟩, List.mem_of_getElem? (i := 502) (by decide +kernel), List.mem_of_getElem? (i := 706) (by decide +kernel), List.mem_of_getElem? (i := 707) (by decide +kernel)⟩
theorem lw_p22 : lw_okq (⟨"AlarmTablesModel", "byAct", "(I)V"⟩, 35) := ⟨⟨by decide +kernel, by decide +kernel⟩, List.mem_of_getElem? (i := 502) (by decide +kernel), List.mem_of_getElem? (i := 710) (by decide +kernel), List.mem_of_getElem? (i := 711) (by decide +kernel)⟩
theorem lw_p23 : lw_okq (⟨"AlarmTablesModel", "goAlarm", "(I)V"⟩, 35) := ⟨⟨by decide +kernel, by decide +kernel⟩, List.mem_of_getElem? (i := 502) (by decide +kernel), List.mem_of_getElem? (i := 714) (by decide +kernel), List.mem_of_getElem? (i := 715) (by decide +kernel)⟩
def lw_privs_2 : List (MethodName × Nat) := [(⟨"AlarmTablesModel", "makeStep", "(I)V"⟩, 35), (⟨"AlarmTablesModel", "go", "()V"⟩, 35), (⟨"AlarmTablesModel", "goTable", "(II)V"⟩, 35), (⟨"AlarmTablesModel", "tableGoes", "(I)I"⟩, 35), (⟨"AlarmTablesModel", "goOn", "(IJ)Z"⟩, 35), (⟨"AlarmTablesModel", "note", "(IIJI)V"⟩, 35), (⟨"AlarmTablesModel", "byAct", "(I)V"⟩, 35), (⟨"AlarmTablesModel", "goAlarm", "(I)V"⟩, 35)]
theorem lw_r2 : ∀ q ∈ lw_privs_2, lw_okq q := List.forall_mem_cons.mpr ⟨lw_p16, List.forall_mem_cons.mpr ⟨lw_p17, List.forall_mem_cons.mpr ⟨lw_p18, List.forall_mem_cons.mpr ⟨lw_p19, List.forall_mem_cons.mpr ⟨lw_p20, List.forall_mem_cons.mpr ⟨lw_p21, List.forall_mem_cons.mpr ⟨lw_p22, List.forall_mem_cons.mpr ⟨lw_p23, fun _ h => absurd h List.not_mem_nil⟩⟩⟩⟩⟩⟩⟩⟩
def lw_privs : List (MethodName × Nat) := lw_privs_1 ++ (lw_privs_2)
def lw_tbl : List Cond := k2_sels lw_privs ++ tables_1
theorem lw_privs_ok : ∀ q ∈ lw_privs, lw_okq q := by
  show ∀ q ∈ lw_privs_1 ++ (lw_privs_2), lw_okq q
  exact List.forall_mem_append.mpr ⟨lw_r1, lw_r2⟩
/-- the words that stay good along a run -/
def wT : List Cond := lw_tbl.filter goodWord
theorem wT_in {w : Cond} (i : Nat) (h : lw_tbl[i]? = some w) (g : goodWord w = true) : w ∈ wT := List.mem_filter.mpr ⟨List.mem_of_getElem? h, g⟩
def RAct : String := "AlarmTables$Act"
def TAct : u_T := fun k => match k with
  | 0 => ("AlarmTables$Act", "stepped", "LAlarmTables$Counter;", true)
  | _ => ("AlarmTables$Act", "cancelled", "LAlarmTables$Alarm;", true)
def tyAct : Nat → FieldType := fun k => match k with
  | 0 => .object "AlarmTables$Counter"
  | _ => .object "AlarmTables$Alarm"
theorem nmAct : ∀ a, a < 2 → ∀ b, b < 2 → a ≠ b → (TAct a).2.1 ≠ (TAct b).2.1 := by decide +kernel
theorem tyAct_ok : ∀ k, k < 2 → parseFieldDescriptor (TAct k).2.2.1 = some (tyAct k) := by decide +kernel
def RAlarm : String := "AlarmTables$Alarm"
def TAlarm : u_T := fun k => match k with
  | 0 => ("AlarmTables$Alarm", "number", "I", true)
  | 1 => ("AlarmTables$Alarm", "counter", "LAlarmTables$Counter;", true)
  | 2 => ("AlarmTables$Alarm", "act", "LAlarmTables$Act;", true)
  | 3 => ("AlarmTables$Alarm", "isSet", "Z", false)
  | 4 => ("AlarmTables$Alarm", "due", "J", false)
  | 5 => ("AlarmTables$Alarm", "cycle", "J", false)
  | _ => ("AlarmTables$Alarm", "behind", "LAlarmTables$Alarm;", false)
def tyAlarm : Nat → FieldType := fun k => match k with
  | 0 => .int
  | 1 => .object "AlarmTables$Counter"
  | 2 => .object "AlarmTables$Act"
  | 3 => .boolean
  | 4 => .long
  | 5 => .long
  | _ => .object "AlarmTables$Alarm"
theorem nmAlarm : ∀ a, a < 7 → ∀ b, b < 7 → a ≠ b → (TAlarm a).2.1 ≠ (TAlarm b).2.1 := by decide +kernel
theorem tyAlarm_ok : ∀ k, k < 7 → parseFieldDescriptor (TAlarm k).2.2.1 = some (tyAlarm k) := by decide +kernel
def RCounter : String := "AlarmTables$Counter"
def TCounter : u_T := fun k => match k with
  | 0 => ("AlarmTables$Counter", "bit", "I", true)
  | 1 => ("AlarmTables$Counter", "base", "J", true)
  | 2 => ("AlarmTables$Counter", "ticksAStep", "J", true)
  | 3 => ("AlarmTables$Counter", "ticksKept", "J", false)
  | 4 => ("AlarmTables$Counter", "value", "J", false)
  | 5 => ("AlarmTables$Counter", "steps", "J", false)
  | 6 => ("AlarmTables$Counter", "wake", "J", false)
  | 7 => ("AlarmTables$Counter", "leadsTo", "I", false)
  | 8 => ("AlarmTables$Counter", "firstAlarm", "LAlarmTables$Alarm;", false)
  | 9 => ("AlarmTables$Counter", "lastAlarm", "LAlarmTables$Alarm;", false)
  | 10 => ("AlarmTables$Counter", "firstTable", "LAlarmTables$Table;", false)
  | _ => ("AlarmTables$Counter", "lastTable", "LAlarmTables$Table;", false)
def tyCounter : Nat → FieldType := fun k => match k with
  | 0 => .int
  | 1 => .long
  | 2 => .long
  | 3 => .long
  | 4 => .long
  | 5 => .long
  | 6 => .long
  | 7 => .int
  | 8 => .object "AlarmTables$Alarm"
  | 9 => .object "AlarmTables$Alarm"
  | 10 => .object "AlarmTables$Table"
  | _ => .object "AlarmTables$Table"
theorem nmCounter : ∀ a, a < 12 → ∀ b, b < 12 → a ≠ b → (TCounter a).2.1 ≠ (TCounter b).2.1 := by decide +kernel
theorem tyCounter_ok : ∀ k, k < 12 → parseFieldDescriptor (TCounter k).2.2.1 = some (tyCounter k) := by decide +kernel
def RNotes : String := "AlarmTables$Notes"
def TNotes : u_T := fun k => match k with
  | 0 => ("AlarmTables$Notes", "pages", "[LAlarmTables$Page;", true)
  | 1 => ("AlarmTables$Notes", "kept", "I", false)
  | _ => ("AlarmTables$Notes", "total", "I", false)
def tyNotes : Nat → FieldType := fun k => match k with
  | 0 => .array (.object "AlarmTables$Page")
  | 1 => .int
  | _ => .int
theorem nmNotes : ∀ a, a < 3 → ∀ b, b < 3 → a ≠ b → (TNotes a).2.1 ≠ (TNotes b).2.1 := by decide +kernel
theorem tyNotes_ok : ∀ k, k < 3 → parseFieldDescriptor (TNotes k).2.2.1 = some (tyNotes k) := by decide +kernel
def RPage : String := "AlarmTables$Page"
def TPage : u_T := fun k => match k with
  | _ => ("AlarmTables$Page", "cells", "[I", true)
def tyPage : Nat → FieldType := fun k => match k with
  | _ => .array .int
theorem nmPage : ∀ a, a < 1 → ∀ b, b < 1 → a ≠ b → (TPage a).2.1 ≠ (TPage b).2.1 := by decide +kernel
theorem tyPage_ok : ∀ k, k < 1 → parseFieldDescriptor (TPage k).2.2.1 = some (tyPage k) := by decide +kernel
def RPoint : String := "AlarmTables$Point"
def TPoint : u_T := fun k => match k with
  | 0 => ("AlarmTables$Point", "offset", "J", true)
  | 1 => ("AlarmTables$Point", "act", "LAlarmTables$Act;", true)
  | _ => ("AlarmTables$Point", "behind", "LAlarmTables$Point;", false)
def tyPoint : Nat → FieldType := fun k => match k with
  | 0 => .long
  | 1 => .object "AlarmTables$Act"
  | _ => .object "AlarmTables$Point"
theorem nmPoint : ∀ a, a < 3 → ∀ b, b < 3 → a ≠ b → (TPoint a).2.1 ≠ (TPoint b).2.1 := by decide +kernel
theorem tyPoint_ok : ∀ k, k < 3 → parseFieldDescriptor (TPoint k).2.2.1 = some (tyPoint k) := by decide +kernel
def RTable : String := "AlarmTables$Table"
def TTable : u_T := fun k => match k with
  | 0 => ("AlarmTables$Table", "number", "I", true)
  | 1 => ("AlarmTables$Table", "counter", "LAlarmTables$Counter;", true)
  | 2 => ("AlarmTables$Table", "length", "J", true)
  | 3 => ("AlarmTables$Table", "firstPoint", "LAlarmTables$Point;", false)
  | 4 => ("AlarmTables$Table", "pointCount", "I", false)
  | 5 => ("AlarmTables$Table", "runs", "Z", false)
  | 6 => ("AlarmTables$Table", "begun", "Z", false)
  | 7 => ("AlarmTables$Table", "due", "J", false)
  | 8 => ("AlarmTables$Table", "coming", "LAlarmTables$Point;", false)
  | 9 => ("AlarmTables$Table", "drift", "J", false)
  | 10 => ("AlarmTables$Table", "told", "LAlarmTables$Table;", false)
  | _ => ("AlarmTables$Table", "behind", "LAlarmTables$Table;", false)
def tyTable : Nat → FieldType := fun k => match k with
  | 0 => .int
  | 1 => .object "AlarmTables$Counter"
  | 2 => .long
  | 3 => .object "AlarmTables$Point"
  | 4 => .int
  | 5 => .boolean
  | 6 => .boolean
  | 7 => .long
  | 8 => .object "AlarmTables$Point"
  | 9 => .long
  | 10 => .object "AlarmTables$Table"
  | _ => .object "AlarmTables$Table"
theorem nmTable : ∀ a, a < 12 → ∀ b, b < 12 → a ≠ b → (TTable a).2.1 ≠ (TTable b).2.1 := by decide +kernel
theorem tyTable_ok : ∀ k, k < 12 → parseFieldDescriptor (TTable k).2.2.1 = some (tyTable k) := by decide +kernel
def RAT : String := "AlarmTables"
def TAT : u_T := fun k => match k with
  | 0 => ("AlarmTables", "counters", "[LAlarmTables$Counter;", true)
  | 1 => ("AlarmTables", "alarms", "[LAlarmTables$Alarm;", true)
  | 2 => ("AlarmTables", "tables", "[LAlarmTables$Table;", true)
  | 3 => ("AlarmTables", "notes", "LAlarmTables$Notes;", true)
  | 4 => ("AlarmTables", "counterCount", "I", false)
  | 5 => ("AlarmTables", "alarmCount", "I", false)
  | 6 => ("AlarmTables", "tableCount", "I", false)
  | _ => ("AlarmTables", "actSteps", "I", false)
def tyAT : Nat → FieldType := fun k => match k with
  | 0 => .array (.object "AlarmTables$Counter")
  | 1 => .array (.object "AlarmTables$Alarm")
  | 2 => .array (.object "AlarmTables$Table")
  | 3 => .object "AlarmTables$Notes"
  | 4 => .int
  | 5 => .int
  | 6 => .int
  | _ => .int
theorem nmAT : ∀ a, a < 8 → ∀ b, b < 8 → a ≠ b → (TAT a).2.1 ≠ (TAT b).2.1 := by decide +kernel
theorem tyAT_ok : ∀ k, k < 8 → parseFieldDescriptor (TAT k).2.2.1 = some (tyAT k) := by decide +kernel
def RMod : String := "AlarmTablesModel"
def TMod : u_T := fun k => match k with
  | 0 => ("AlarmTablesModel", "code", "I", false)
  | 1 => ("AlarmTablesModel", "counters", "I", false)
  | 2 => ("AlarmTablesModel", "base", "[J", true)
  | 3 => ("AlarmTablesModel", "ticks", "[J", true)
  | 4 => ("AlarmTablesModel", "rest", "[J", true)
  | 5 => ("AlarmTablesModel", "steps", "[J", true)
  | 6 => ("AlarmTablesModel", "leads", "[Z", true)
  | 7 => ("AlarmTablesModel", "seen", "[Z", true)
  | 8 => ("AlarmTablesModel", "alarms", "I", false)
  | 9 => ("AlarmTablesModel", "alarmOn", "[I", true)
  | 10 => ("AlarmTablesModel", "alarmAct", "[I", true)
  | 11 => ("AlarmTablesModel", "alarmOf", "[I", true)
  | 12 => ("AlarmTablesModel", "isSet", "[Z", true)
  | 13 => ("AlarmTablesModel", "alarmDue", "[J", true)
  | 14 => ("AlarmTablesModel", "cycle", "[J", true)
  | 15 => ("AlarmTablesModel", "tables", "I", false)
  | 16 => ("AlarmTablesModel", "tableOn", "[I", true)
  | 17 => ("AlarmTablesModel", "length", "[J", true)
  | 18 => ("AlarmTablesModel", "points", "[I", true)
  | 19 => ("AlarmTablesModel", "offset", "[J", true)
  | 20 => ("AlarmTablesModel", "act", "[I", true)
  | 21 => ("AlarmTablesModel", "next", "[I", true)
  | 22 => ("AlarmTablesModel", "deviation", "[J", true)
  | 23 => ("AlarmTablesModel", "runs", "[Z", true)
  | 24 => ("AlarmTablesModel", "due", "[J", true)
  | 25 => ("AlarmTablesModel", "place", "[I", true)
  | 26 => ("AlarmTablesModel", "expired", "I", false)
  | 27 => ("AlarmTablesModel", "kind", "[I", true)
  | 28 => ("AlarmTablesModel", "number", "[I", true)
  | 29 => ("AlarmTablesModel", "where", "[I", true)
  | 30 => ("AlarmTablesModel", "value", "[I", true)
  | 31 => ("AlarmTablesModel", "acted", "I", false)
  | 32 => ("AlarmTablesModel", "deep", "I", false)
  | 33 => ("AlarmTablesModel", "stepped", "[I", true)
  | _ => ("AlarmTablesModel", "goesOn", "[I", true)
def tyMod : Nat → FieldType := fun k => match k with
  | 0 => .int
  | 1 => .int
  | 2 => .array .long
  | 3 => .array .long
  | 4 => .array .long
  | 5 => .array .long
  | 6 => .array .boolean
  | 7 => .array .boolean
  | 8 => .int
  | 9 => .array .int
  | 10 => .array .int
  | 11 => .array .int
  | 12 => .array .boolean
  | 13 => .array .long
  | 14 => .array .long
  | 15 => .int
  | 16 => .array .int
  | 17 => .array .long
  | 18 => .array .int
  | 19 => .array .long
  | 20 => .array .int
  | 21 => .array .int
  | 22 => .array .long
  | 23 => .array .boolean
  | 24 => .array .long
  | 25 => .array .int
  | 26 => .int
  | 27 => .array .int
  | 28 => .array .int
  | 29 => .array .int
  | 30 => .array .int
  | 31 => .int
  | 32 => .int
  | 33 => .array .int
  | _ => .array .int
theorem nmMod : ∀ a, a < 35 → ∀ b, b < 35 → a ≠ b → (TMod a).2.1 ≠ (TMod b).2.1 := by decide +kernel
theorem tyMod_ok : ∀ k, k < 35 → parseFieldDescriptor (TMod k).2.2.1 = some (tyMod k) := by decide +kernel
def RLaw : String := "AlarmTablesLaw"
abbrev vwCl : List vw_C := [(RAct, TAct, 2), (RAlarm, TAlarm, 7), (RCounter, TCounter, 12), (RNotes, TNotes, 3), (RPage, TPage, 1), (RPoint, TPoint, 3), (RTable, TTable, 12), (RAT, TAT, 8), (RMod, TMod, 35)]
abbrev cAct_init : ByteArray := prog_2_method_1_code
def yAct_init : MethodName := ⟨RAct, "<init>", "(LAlarmTables$Counter;LAlarmTables$Alarm;)V"⟩
abbrev cAlarm_init : ByteArray := prog_3_method_1_code
def yAlarm_init : MethodName := ⟨RAlarm, "<init>", "(ILAlarmTables$Counter;LAlarmTables$Act;)V"⟩
abbrev cAlarm_becomeDue : ByteArray := prog_3_method_2_code
def yAlarm_becomeDue : MethodName := ⟨RAlarm, "becomeDue", "(J)V"⟩
abbrev cCounter_init : ByteArray := prog_4_method_1_code
def yCounter_init : MethodName := ⟨RCounter, "<init>", "(IJJ)V"⟩
abbrev cCounter_wakeAt : ByteArray := prog_4_method_2_code
def yCounter_wakeAt : MethodName := ⟨RCounter, "wakeAt", "(J)V"⟩
abbrev cCounter_advance : ByteArray := prog_4_method_3_code
def yCounter_advance : MethodName := ⟨RCounter, "advance", "()V"⟩
abbrev cCounter_stepsUntil : ByteArray := prog_4_method_4_code
def yCounter_stepsUntil : MethodName := ⟨RCounter, "stepsUntil", "(J)J"⟩
abbrev cCounter_appendAlarm : ByteArray := prog_4_method_5_code
def yCounter_appendAlarm : MethodName := ⟨RCounter, "appendAlarm", "(LAlarmTables$Alarm;)V"⟩
abbrev cCounter_appendTable : ByteArray := prog_4_method_6_code
def yCounter_appendTable : MethodName := ⟨RCounter, "appendTable", "(LAlarmTables$Table;)V"⟩
abbrev cNotes_init : ByteArray := prog_5_method_1_code
def yNotes_init : MethodName := ⟨RNotes, "<init>", "()V"⟩
abbrev cNotes_add : ByteArray := prog_5_method_2_code
def yNotes_add : MethodName := ⟨RNotes, "add", "(IIJJ)V"⟩
abbrev cNotes_has : ByteArray := prog_5_method_3_code
def yNotes_has : MethodName := ⟨RNotes, "has", "(I)Z"⟩
abbrev cNotes_read : ByteArray := prog_5_method_4_code
def yNotes_read : MethodName := ⟨RNotes, "read", "(II)I"⟩
abbrev cPage_init : ByteArray := prog_6_method_1_code
def yPage_init : MethodName := ⟨RPage, "<init>", "()V"⟩
abbrev cPage_write : ByteArray := prog_6_method_2_code
def yPage_write : MethodName := ⟨RPage, "write", "(IIIJJ)V"⟩
abbrev cPoint_init : ByteArray := prog_7_method_1_code
def yPoint_init : MethodName := ⟨RPoint, "<init>", "(JLAlarmTables$Act;)V"⟩
abbrev cTable_init : ByteArray := prog_8_method_1_code
def yTable_init : MethodName := ⟨RTable, "<init>", "(ILAlarmTables$Counter;J)V"⟩
abbrev cTable_pointBefore : ByteArray := prog_8_method_2_code
def yTable_pointBefore : MethodName := ⟨RTable, "pointBefore", "(J)LAlarmTables$Point;"⟩
abbrev cTable_hasPointAt : ByteArray := prog_8_method_3_code
def yTable_hasPointAt : MethodName := ⟨RTable, "hasPointAt", "(J)Z"⟩
abbrev cTable_insert : ByteArray := prog_8_method_4_code
def yTable_insert : MethodName := ⟨RTable, "insert", "(LAlarmTables$Point;)V"⟩
abbrev cTable_runFrom : ByteArray := prog_8_method_5_code
def yTable_runFrom : MethodName := ⟨RTable, "runFrom", "(J)V"⟩
abbrev cTable_goOn : ByteArray := prog_8_method_6_code
def yTable_goOn : MethodName := ⟨RTable, "goOn", "(JLAlarmTables$Point;)V"⟩
abbrev cAT_init : ByteArray := prog_1_method_1_code
def yAT_init : MethodName := ⟨RAT, "<init>", "()V"⟩
abbrev cAT_counter : ByteArray := prog_1_method_2_code
def yAT_counter : MethodName := ⟨RAT, "counter", "(JJ)I"⟩
abbrev cAT_alarm : ByteArray := prog_1_method_3_code
def yAT_alarm : MethodName := ⟨RAT, "alarm", "(III)I"⟩
abbrev cAT_set : ByteArray := prog_1_method_4_code
def yAT_set : MethodName := ⟨RAT, "set", "(IJJZ)I"⟩
abbrev cAT_cancel : ByteArray := prog_1_method_5_code
def yAT_cancel : MethodName := ⟨RAT, "cancel", "(I)I"⟩
abbrev cAT_table : ByteArray := prog_1_method_6_code
def yAT_table : MethodName := ⟨RAT, "table", "(IJ)I"⟩
abbrev cAT_point : ByteArray := prog_1_method_7_code
def yAT_point : MethodName := ⟨RAT, "point", "(IJI)I"⟩
abbrev cAT_start : ByteArray := prog_1_method_8_code
def yAT_start : MethodName := ⟨RAT, "start", "(IJ)I"⟩
abbrev cAT_next : ByteArray := prog_1_method_9_code
def yAT_next : MethodName := ⟨RAT, "next", "(II)I"⟩
abbrev cAT_sync : ByteArray := prog_1_method_10_code
def yAT_sync : MethodName := ⟨RAT, "sync", "(IJ)I"⟩
abbrev cAT_tick : ByteArray := prog_1_method_11_code
def yAT_tick : MethodName := ⟨RAT, "tick", "(IJ)I"⟩
abbrev cAT_expired : ByteArray := prog_1_method_12_code
def yAT_expired : MethodName := ⟨RAT, "expired", "(II)I"⟩
abbrev cAT_deviation : ByteArray := prog_1_method_13_code
def yAT_deviation : MethodName := ⟨RAT, "deviation", "(I)J"⟩
abbrev cAT_findCounter : ByteArray := prog_1_method_14_code
def yAT_findCounter : MethodName := ⟨RAT, "findCounter", "(I)LAlarmTables$Counter;"⟩
abbrev cAT_findAlarm : ByteArray := prog_1_method_15_code
def yAT_findAlarm : MethodName := ⟨RAT, "findAlarm", "(I)LAlarmTables$Alarm;"⟩
abbrev cAT_findTable : ByteArray := prog_1_method_16_code
def yAT_findTable : MethodName := ⟨RAT, "findTable", "(I)LAlarmTables$Table;"⟩
abbrev cAT_isUnknownFor : ByteArray := prog_1_method_17_code
def yAT_isUnknownFor : MethodName := ⟨RAT, "isUnknownFor", "(II)Z"⟩
abbrev cAT_wouldCircle : ByteArray := prog_1_method_18_code
def yAT_wouldCircle : MethodName := ⟨RAT, "wouldCircle", "(LAlarmTables$Counter;LAlarmTables$Counter;)Z"⟩
abbrev cAT_link : ByteArray := prog_1_method_19_code
def yAT_link : MethodName := ⟨RAT, "link", "(LAlarmTables$Counter;LAlarmTables$Counter;)V"⟩
abbrev cAT_makeStep : ByteArray := prog_1_method_20_code
def yAT_makeStep : MethodName := ⟨RAT, "makeStep", "(LAlarmTables$Counter;I)V"⟩
abbrev cAT_takeAlarmTurn : ByteArray := prog_1_method_21_code
def yAT_takeAlarmTurn : MethodName := ⟨RAT, "takeAlarmTurn", "(LAlarmTables$Alarm;I)V"⟩
abbrev cAT_takeTableTurn : ByteArray := prog_1_method_22_code
def yAT_takeTableTurn : MethodName := ⟨RAT, "takeTableTurn", "(LAlarmTables$Table;I)V"⟩
abbrev cAT_goThrough : ByteArray := prog_1_method_23_code
def yAT_goThrough : MethodName := ⟨RAT, "goThrough", "(LAlarmTables$Table;I)LAlarmTables$Table;"⟩
abbrev cAT_giveOver : ByteArray := prog_1_method_24_code
def yAT_giveOver : MethodName := ⟨RAT, "giveOver", "(LAlarmTables$Table;)LAlarmTables$Table;"⟩
abbrev cAT_perform : ByteArray := prog_1_method_25_code
def yAT_perform : MethodName := ⟨RAT, "perform", "(LAlarmTables$Act;I)V"⟩
abbrev cMod_init : ByteArray := prog_10_method_1_code
def yMod_init : MethodName := ⟨RMod, "<init>", "()V"⟩
abbrev cMod_thrown : ByteArray := prog_10_method_2_code
def yMod_thrown : MethodName := ⟨RMod, "thrown", "()I"⟩
abbrev cMod_no : ByteArray := prog_10_method_3_code
def yMod_no : MethodName := ⟨RMod, "no", "(I)Z"⟩
abbrev cMod_noAlarm : ByteArray := prog_10_method_4_code
def yMod_noAlarm : MethodName := ⟨RMod, "noAlarm", "(I)Z"⟩
abbrev cMod_noTable : ByteArray := prog_10_method_5_code
def yMod_noTable : MethodName := ⟨RMod, "noTable", "(I)Z"⟩
abbrev cMod_counter : ByteArray := prog_10_method_6_code
def yMod_counter : MethodName := ⟨RMod, "counter", "(JJ)I"⟩
abbrev cMod_leadsTo : ByteArray := prog_10_method_7_code
def yMod_leadsTo : MethodName := ⟨RMod, "leadsTo", "(II)Z"⟩
abbrev cMod_alarm : ByteArray := prog_10_method_8_code
def yMod_alarm : MethodName := ⟨RMod, "alarm", "(III)I"⟩
abbrev cMod_set : ByteArray := prog_10_method_9_code
def yMod_set : MethodName := ⟨RMod, "set", "(IJJZ)I"⟩
abbrev cMod_cancel : ByteArray := prog_10_method_10_code
def yMod_cancel : MethodName := ⟨RMod, "cancel", "(I)I"⟩
abbrev cMod_table : ByteArray := prog_10_method_11_code
def yMod_table : MethodName := ⟨RMod, "table", "(IJ)I"⟩
abbrev cMod_point : ByteArray := prog_10_method_12_code
def yMod_point : MethodName := ⟨RMod, "point", "(IJI)I"⟩
abbrev cMod_start : ByteArray := prog_10_method_13_code
def yMod_start : MethodName := ⟨RMod, "start", "(IJ)I"⟩
abbrev cMod_next : ByteArray := prog_10_method_14_code
def yMod_next : MethodName := ⟨RMod, "next", "(II)I"⟩
abbrev cMod_sync : ByteArray := prog_10_method_15_code
def yMod_sync : MethodName := ⟨RMod, "sync", "(IJ)I"⟩
abbrev cMod_note : ByteArray := prog_10_method_16_code
def yMod_note : MethodName := ⟨RMod, "note", "(IIJI)V"⟩
abbrev cMod_makeStep : ByteArray := prog_10_method_17_code
def yMod_makeStep : MethodName := ⟨RMod, "makeStep", "(I)V"⟩
abbrev cMod_byAct : ByteArray := prog_10_method_18_code
def yMod_byAct : MethodName := ⟨RMod, "byAct", "(I)V"⟩
abbrev cMod_goOn : ByteArray := prog_10_method_19_code
def yMod_goOn : MethodName := ⟨RMod, "goOn", "(IJ)Z"⟩
abbrev cMod_tableGoes : ByteArray := prog_10_method_20_code
def yMod_tableGoes : MethodName := ⟨RMod, "tableGoes", "(I)I"⟩
abbrev cMod_goTable : ByteArray := prog_10_method_21_code
def yMod_goTable : MethodName := ⟨RMod, "goTable", "(II)V"⟩
abbrev cMod_goAlarm : ByteArray := prog_10_method_22_code
def yMod_goAlarm : MethodName := ⟨RMod, "goAlarm", "(I)V"⟩
abbrev cMod_go : ByteArray := prog_10_method_23_code
def yMod_go : MethodName := ⟨RMod, "go", "()V"⟩
abbrev cMod_tick : ByteArray := prog_10_method_24_code
def yMod_tick : MethodName := ⟨RMod, "tick", "(IJ)I"⟩
abbrev cMod_expired : ByteArray := prog_10_method_25_code
def yMod_expired : MethodName := ⟨RMod, "expired", "(II)I"⟩
abbrev cMod_deviation : ByteArray := prog_10_method_26_code
def yMod_deviation : MethodName := ⟨RMod, "deviation", "(I)J"⟩
def aK (K : Nat) : Nat := match K with
  | 11 => 1
  | 12 => 2
  | 13 => 1
  | 14 => 3
  | 15 => 3
  | 16 => 3
  | 17 => 3
  | _ => 0
def aE (K : Nat) : Nat := match K with
  | 14 => 3
  | 15 => 2
  | 16 => 7
  | 17 => 5
  | _ => 0
def lay (K : Nat) : List (Nat × Nat) := match K with
  | 1 => [(2, 0), (2, 1)]
  | 2 => [(0, 0), (2, 2), (2, 3), (0, 1), (1, 0), (1, 1), (2, 4)]
  | 3 => [(0, 2), (1, 2), (1, 3), (1, 4), (1, 5), (1, 6), (1, 7), (0, 3), (2, 5), (2, 6), (2, 7), (2, 8)]
  | 4 => [(2, 9), (0, 4), (0, 5)]
  | 5 => [(2, 10)]
  | 6 => [(1, 8), (2, 11), (2, 12)]
  | 7 => [(0, 6), (2, 13), (1, 9), (2, 14), (0, 7), (0, 8), (0, 9), (1, 10), (2, 15), (1, 11), (2, 16), (2, 17)]
  | 8 => [(2, 18), (2, 19), (2, 20), (2, 21), (0, 10), (0, 11), (0, 12), (0, 13)]
  | 9 => [(0, 14), (0, 15), (2, 22), (2, 23), (2, 24), (2, 25), (2, 26), (2, 27), (0, 16), (2, 28), (2, 29), (2, 30), (2, 31), (2, 32), (2, 33), (0, 17), (2, 34), (2, 35), (2, 36), (2, 37), (2, 38), (2, 39), (2, 40), (2, 41), (2, 42), (2, 43), (0, 18), (2, 44), (2, 45), (2, 46), (2, 47), (0, 19), (0, 20), (2, 48), (2, 49)]
  | _ => []
def rO (k : Nat) : Nat := match k with
  | 0 => 1
  | 1 => 1
  | 2 => 2
  | 3 => 2
  | 4 => 2
  | 5 => 3
  | 6 => 3
  | 7 => 3
  | 8 => 3
  | 9 => 4
  | 10 => 5
  | 11 => 6
  | 12 => 6
  | 13 => 7
  | 14 => 7
  | 15 => 7
  | 16 => 7
  | 17 => 7
  | 18 => 8
  | 19 => 8
  | 20 => 8
  | 21 => 8
  | 22 => 9
  | 23 => 9
  | 24 => 9
  | 25 => 9
  | 26 => 9
  | 27 => 9
  | 28 => 9
  | 29 => 9
  | 30 => 9
  | 31 => 9
  | 32 => 9
  | 33 => 9
  | 34 => 9
  | 35 => 9
  | 36 => 9
  | 37 => 9
  | 38 => 9
  | 39 => 9
  | 40 => 9
  | 41 => 9
  | 42 => 9
  | 43 => 9
  | 44 => 9
  | 45 => 9
  | 46 => 9
  | 47 => 9
  | 48 => 9
  | 49 => 9
  | _ => 99
def rT (k : Nat) : Nat := match k with
  | 0 => 3
  | 1 => 2
  | 2 => 3
  | 3 => 1
  | 4 => 2
  | 5 => 2
  | 6 => 2
  | 7 => 7
  | 8 => 7
  | 9 => 17
  | 10 => 11
  | 11 => 1
  | 12 => 6
  | 13 => 3
  | 14 => 6
  | 15 => 6
  | 16 => 7
  | 17 => 7
  | 18 => 14
  | 19 => 15
  | 20 => 16
  | 21 => 4
  | 22 => 12
  | 23 => 12
  | 24 => 12
  | 25 => 12
  | 26 => 13
  | 27 => 13
  | 28 => 11
  | 29 => 11
  | 30 => 11
  | 31 => 13
  | 32 => 12
  | 33 => 12
  | 34 => 11
  | 35 => 12
  | 36 => 11
  | 37 => 12
  | 38 => 11
  | 39 => 11
  | 40 => 12
  | 41 => 13
  | 42 => 12
  | 43 => 11
  | 44 => 11
  | 45 => 11
  | 46 => 11
  | 47 => 11
  | 48 => 11
  | 49 => 11
  | _ => 99
theorem rO_ne (k : Nat) : rO k ≠ 0 := by unfold rO; split <;> decide
theorem rT_ne (k : Nat) : rT k ≠ 0 := by unfold rT; split <;> decide
theorem rO_obj (k : Nat) (K : Nat) (h1 : 10 ≤ K) (h2 : K ≤ 20) : rO k ≠ K := by unfold rO; split <;> omega
def aTys (AC : Nat → ClassId) : List (ClassId × FieldType) := [(AC 11, .int), (AC 12, .long), (AC 13, .boolean), (AC 14, .object "AlarmTables$Counter"), (AC 15, .object "AlarmTables$Alarm"), (AC 16, .object "AlarmTables$Table"), (AC 17, .object "AlarmTables$Page")]
end
section
-- a compare of longs with the branch behind it
section LLC
variable {p : Program} {l : Launch} {e : Env} {R : Room} {s : State} {m : MethodId} {args : Array Value} {below : List Frame} {meth : Method} {c : Code} {H : Heap} {locs : List Loc} {cells slots : Nat} {Q : State → Prop}
variable {cc : ByteArray} {pc tgt : Nat} {ls : Array Slot} {rest : List Value} {x y : Int64} {off : Int}
theorem ll_lt (hexec : p.tables.exec = Jvm.exec) (hb : c.code = cc) (d1 : decode cc pc = .ok (.lcmp, 1)) (d2 : decode cc (pc + 1) = .ok (.ifCond .lt off, 3)) (ht : ((pc + 1 : Nat) : Int) + off = (tgt : Int)) (kt : x < y → W p l e R s m args below meth c H locs cells slots Q (F0 m tgt ls rest)) (kf : ¬ x < y → W p l e R s m args below meth c H locs cells slots Q (F0 m (pc + 4) ls rest)) : W p l e R s m args below meth c H locs cells slots Q (F0 m pc ls (.long y :: .long x :: rest)) :=
  W.lcmp hexec hb d1 (lv_if_lt hexec hb d2 ht (fun h => kt ((lg_cmp_lt x y).mp h)) (fun h => kf (fun q => h ((lg_cmp_lt x y).mpr q))))
theorem ll_ge (hexec : p.tables.exec = Jvm.exec) (hb : c.code = cc) (d1 : decode cc pc = .ok (.lcmp, 1)) (d2 : decode cc (pc + 1) = .ok (.ifCond .ge off, 3)) (ht : ((pc + 1 : Nat) : Int) + off = (tgt : Int)) (kt : ¬ x < y → W p l e R s m args below meth c H locs cells slots Q (F0 m tgt ls rest)) (kf : x < y → W p l e R s m args below meth c H locs cells slots Q (F0 m (pc + 4) ls rest)) : W p l e R s m args below meth c H locs cells slots Q (F0 m pc ls (.long y :: .long x :: rest)) :=
  W.lcmp hexec hb d1 (lv_if_ge hexec hb d2 ht (fun h => kt (fun q => by have h1 := (lg_cmp_ge x y).mp h; rw [Int64.le_iff_toInt_le] at h1; rw [Int64.lt_iff_toInt_lt] at q; omega)) (fun h => kf (by have h1 : ¬ y ≤ x := fun q => h ((lg_cmp_ge x y).mpr q); rw [Int64.le_iff_toInt_le] at h1; rw [Int64.lt_iff_toInt_lt]; omega)))
theorem ll_gt (hexec : p.tables.exec = Jvm.exec) (hb : c.code = cc) (d1 : decode cc pc = .ok (.lcmp, 1)) (d2 : decode cc (pc + 1) = .ok (.ifCond .gt off, 3)) (ht : ((pc + 1 : Nat) : Int) + off = (tgt : Int)) (kt : y < x → W p l e R s m args below meth c H locs cells slots Q (F0 m tgt ls rest)) (kf : ¬ y < x → W p l e R s m args below meth c H locs cells slots Q (F0 m (pc + 4) ls rest)) : W p l e R s m args below meth c H locs cells slots Q (F0 m pc ls (.long y :: .long x :: rest)) :=
  W.lcmp hexec hb d1 (lv_if_gt hexec hb d2 ht (fun h => kt ((lg_cmp_gt x y).mp h)) (fun h => kf (fun q => h ((lg_cmp_gt x y).mpr q))))
theorem ll_le (hexec : p.tables.exec = Jvm.exec) (hb : c.code = cc) (d1 : decode cc pc = .ok (.lcmp, 1)) (d2 : decode cc (pc + 1) = .ok (.ifCond .le off, 3)) (ht : ((pc + 1 : Nat) : Int) + off = (tgt : Int)) (kt : ¬ y < x → W p l e R s m args below meth c H locs cells slots Q (F0 m tgt ls rest)) (kf : y < x → W p l e R s m args below meth c H locs cells slots Q (F0 m (pc + 4) ls rest)) : W p l e R s m args below meth c H locs cells slots Q (F0 m pc ls (.long y :: .long x :: rest)) :=
  W.lcmp hexec hb d1 (lv_if_le hexec hb d2 ht (fun h => kt (fun q => by have h1 := (lg_cmp_le x y).mp h; rw [Int64.le_iff_toInt_le] at h1; rw [Int64.lt_iff_toInt_lt] at q; omega)) (fun h => kf (by have h1 : ¬ x ≤ y := fun q => h ((lg_cmp_le x y).mpr q); rw [Int64.le_iff_toInt_le] at h1; rw [Int64.lt_iff_toInt_lt]; omega)))
theorem lg_cmp_eq0 (x y : Int64) : lg_cmp x y = 0 ↔ x = y := by
  unfold lg_cmp
  by_cases h : x > y
  · have hne : ¬ x = y := fun q => by subst q; have h1 : x < x := h; rw [Int64.lt_iff_toInt_lt] at h1; omega
    simp [h, hne]
  · by_cases h2 : x = y
    · subst h2; simp [h]
    · simp [h, h2]
theorem ll_eq (hexec : p.tables.exec = Jvm.exec) (hb : c.code = cc) (d1 : decode cc pc = .ok (.lcmp, 1)) (d2 : decode cc (pc + 1) = .ok (.ifCond .eq off, 3)) (ht : ((pc + 1 : Nat) : Int) + off = (tgt : Int)) (kt : x = y → W p l e R s m args below meth c H locs cells slots Q (F0 m tgt ls rest)) (kf : ¬ x = y → W p l e R s m args below meth c H locs cells slots Q (F0 m (pc + 4) ls rest)) : W p l e R s m args below meth c H locs cells slots Q (F0 m pc ls (.long y :: .long x :: rest)) :=
  W.lcmp hexec hb d1 (lv_if_eq hexec hb d2 ht (fun h => kt ((lg_cmp_eq0 x y).mp h)) (fun h => kf (fun q => h ((lg_cmp_eq0 x y).mpr q))))
theorem ll_ne (hexec : p.tables.exec = Jvm.exec) (hb : c.code = cc) (d1 : decode cc pc = .ok (.lcmp, 1)) (d2 : decode cc (pc + 1) = .ok (.ifCond .ne off, 3)) (ht : ((pc + 1 : Nat) : Int) + off = (tgt : Int)) (kt : ¬ x = y → W p l e R s m args below meth c H locs cells slots Q (F0 m tgt ls rest)) (kf : x = y → W p l e R s m args below meth c H locs cells slots Q (F0 m (pc + 4) ls rest)) : W p l e R s m args below meth c H locs cells slots Q (F0 m pc ls (.long y :: .long x :: rest)) :=
  W.lcmp hexec hb d1 (lv_if_ne hexec hb d2 ht (fun h => kt (fun q => h ((lg_cmp_eq0 x y).mpr q))) (fun h => kf ((lg_cmp_eq0 x y).mp h)))
end LLC
-- references that may be null, as options
section QROWS
variable {p : Program} {l : Launch} {e : Env} {R : Room} {s : State} {m : MethodId} {args : Array Value} {below : List Frame} {meth : Method} {c : Code} {H : Heap} {locs : List Loc} {cells slots : Nat} {Q : State → Prop}
variable {cc : ByteArray} {pc tgt : Nat} {ls : Array Slot} {rest : List Value} {o : Option Nat} {b : Nat} {v1 v2 : Value}
theorem q_cat (o : Option Nat) : (va_rf o).category = 1 := by cases o <;> rfl
theorem q_some (h : o = some b) (k : W p l e R s m args below meth c H locs cells slots Q (F0 m pc ls (.ref b :: rest))) : W p l e R s m args below meth c H locs cells slots Q (F0 m pc ls (va_rf o :: rest)) := by subst h; exact k
theorem q_some1 (h : o = some b) (k : W p l e R s m args below meth c H locs cells slots Q (F0 m pc ls (v1 :: .ref b :: rest))) : W p l e R s m args below meth c H locs cells slots Q (F0 m pc ls (v1 :: va_rf o :: rest)) := by subst h; exact k
theorem q_some2 (h : o = some b) (k : W p l e R s m args below meth c H locs cells slots Q (F0 m pc ls (v1 :: v2 :: .ref b :: rest))) : W p l e R s m args below meth c H locs cells slots Q (F0 m pc ls (v1 :: v2 :: va_rf o :: rest)) := by subst h; exact k
theorem q_none (h : o = none) (k : W p l e R s m args below meth c H locs cells slots Q (F0 m pc ls (.null :: rest))) : W p l e R s m args below meth c H locs cells slots Q (F0 m pc ls (va_rf o :: rest)) := by subst h; exact k
theorem q_aload_n (hexec : p.tables.exec = Jvm.exec) (hb : c.code = cc) {k : Fin 4} {i : Nat} (hdg : decode cc pc = .ok (.aload_n k, 1)) (hi : (k : Nat) = i) (hl : ls[i]? = some (.val (va_rf o))) (kk : W p l e R s m args below meth c H locs cells slots Q (F0 m (pc + 1) ls (va_rf o :: rest))) : W p l e R s m args below meth c H locs cells slots Q (F0 m pc ls rest) := by
  cases o with
  | none => exact lv_aload_nN hexec hb hdg hi hl kk
  | some a => exact lv_aload_n hexec hb hdg hi hl kk
theorem q_aload (hexec : p.tables.exec = Jvm.exec) (hb : c.code = cc) {i : Nat} (hdg : decode cc pc = .ok (.aload i, 2)) (hl : ls[i]? = some (.val (va_rf o))) (kk : W p l e R s m args below meth c H locs cells slots Q (F0 m (pc + 2) ls (va_rf o :: rest))) : W p l e R s m args below meth c H locs cells slots Q (F0 m pc ls rest) := by
  cases o with
  | none => exact lv_aloadN hexec hb hdg hl kk
  | some a => exact lv_aload hexec hb hdg hl kk
theorem q_astore_n (hexec : p.tables.exec = Jvm.exec) (hb : c.code = cc) {k : Fin 4} {i nL : Nat} {lv lv' : List (Nat × Value)} (hdg : decode cc pc = .ok (.astore_n k, 1)) (hi : (k : Nat) = i) (h : lv_has ls nL lv) (hn : i < nL) (hl : (i, va_rf o) :: lv.filter (fun q => !(q.1 == i) && !(q.1 + 1 == i && q.2.category == 2)) = lv') (kk : ∀ ls' : Array Slot, lv_has ls' nL lv' → W p l e R s m args below meth c H locs cells slots Q (F0 m (pc + 1) ls' rest)) : W p l e R s m args below meth c H locs cells slots Q (F0 m pc ls (va_rf o :: rest)) := by
  cases o with
  | none => exact lv_astore_nN hexec hb hdg hi h hn hl kk
  | some a => exact lv_astore_n hexec hb hdg hi h hn hl kk
theorem q_astore (hexec : p.tables.exec = Jvm.exec) (hb : c.code = cc) {i nL : Nat} {lv lv' : List (Nat × Value)} (hdg : decode cc pc = .ok (.astore i, 2)) (h : lv_has ls nL lv) (hn : i < nL) (hl : (i, va_rf o) :: lv.filter (fun q => !(q.1 == i) && !(q.1 + 1 == i && q.2.category == 2)) = lv') (kk : ∀ ls' : Array Slot, lv_has ls' nL lv' → W p l e R s m args below meth c H locs cells slots Q (F0 m (pc + 2) ls' rest)) : W p l e R s m args below meth c H locs cells slots Q (F0 m pc ls (va_rf o :: rest)) := by
  cases o with
  | none => exact lv_astoreN hexec hb hdg h hn hl kk
  | some a => exact lv_astore hexec hb hdg h hn hl kk
theorem q_ifnull (hexec : p.tables.exec = Jvm.exec) (hb : c.code = cc) {off : Int} (hdg : decode cc pc = .ok (.ifnull off, 3)) (ht : (pc : Int) + off = (tgt : Int)) (kn : o = none → W p l e R s m args below meth c H locs cells slots Q (F0 m tgt ls rest)) (ks : ∀ b, o = some b → W p l e R s m args below meth c H locs cells slots Q (F0 m (pc + 3) ls rest)) : W p l e R s m args below meth c H locs cells slots Q (F0 m pc ls (va_rf o :: rest)) := by
  cases o with
  | none => exact lv_ifnullN hexec hb hdg ht (kn rfl)
  | some a => exact lv_ifnull hexec hb hdg (ks a rfl)
theorem q_ifnonnull (hexec : p.tables.exec = Jvm.exec) (hb : c.code = cc) {off : Int} (hdg : decode cc pc = .ok (.ifnonnull off, 3)) (ht : (pc : Int) + off = (tgt : Int)) (kn : o = none → W p l e R s m args below meth c H locs cells slots Q (F0 m (pc + 3) ls rest)) (ks : ∀ b, o = some b → W p l e R s m args below meth c H locs cells slots Q (F0 m tgt ls rest)) : W p l e R s m args below meth c H locs cells slots Q (F0 m pc ls (va_rf o :: rest)) := by
  cases o with
  | none => exact lv_ifnonnullN hexec hb hdg (kn rfl)
  | some a => exact lv_ifnonnull hexec hb hdg ht (ks a rfl)
end QROWS
end
section
-- THE STORE: the objects of a world by their fields (a function for each field, from addresses), arrays by their contents; what a method does to the machine's heap is said of the store alone
abbrev HS : Type := Nat × List Nat × (Nat → Nat) × (Nat → Nat → Int32) × (Nat → Nat → Int64) × (Nat → Nat → Option Nat) × (Nat → Nat) × (Nat → Nat → Int32) × (Nat → Nat → Int64) × (Nat → Nat → Option Nat)
def hz (S : HS) : Nat := S.1
def hL (S : HS) : List Nat := S.2.1
def kd (S : HS) : Nat → Nat := S.2.2.1
def fi (S : HS) : Nat → Nat → Int32 := S.2.2.2.1
def fl (S : HS) : Nat → Nat → Int64 := S.2.2.2.2.1
def fr (S : HS) : Nat → Nat → Option Nat := S.2.2.2.2.2.1
def an (S : HS) : Nat → Nat := S.2.2.2.2.2.2.1
def ai (S : HS) : Nat → Nat → Int32 := S.2.2.2.2.2.2.2.1
def al (S : HS) : Nat → Nat → Int64 := S.2.2.2.2.2.2.2.2.1
def ar (S : HS) : Nat → Nat → Option Nat := S.2.2.2.2.2.2.2.2.2
def shz (S : HS) (n : Nat) : HS := (n, S.2)
def up2 {α : Type} (f : Nat → Nat → α) (k a : Nat) (v : α) : Nat → Nat → α := fun k' a' => if k' = k ∧ a' = a then v else f k' a'
theorem up2_self {α : Type} (f : Nat → Nat → α) (k a : Nat) (v : α) : up2 f k a v k a = v := by simp [up2]
theorem up2_k {α : Type} (f : Nat → Nat → α) {k k' : Nat} (a a' : Nat) (v : α) (h : k' ≠ k) : up2 f k a v k' a' = f k' a' := by simp [up2, h]
theorem up2_a {α : Type} (f : Nat → Nat → α) (k k' : Nat) {a a' : Nat} (v : α) (h : a' ≠ a) : up2 f k a v k' a' = f k' a' := by simp [up2, h]
def sfi (S : HS) (k a : Nat) (v : Int32) : HS := (hz S, hL S, kd S, up2 (fi S) k a v, fl S, fr S, an S, ai S, al S, ar S)
def sfl (S : HS) (k a : Nat) (v : Int64) : HS := (hz S, hL S, kd S, fi S, up2 (fl S) k a v, fr S, an S, ai S, al S, ar S)
def sfr (S : HS) (k a : Nat) (v : Option Nat) : HS := (hz S, hL S, kd S, fi S, fl S, up2 (fr S) k a v, an S, ai S, al S, ar S)
def sai (S : HS) (a i : Nat) (v : Int32) : HS := (hz S, hL S, kd S, fi S, fl S, fr S, an S, up2 (ai S) a i v, al S, ar S)
def sal (S : HS) (a i : Nat) (v : Int64) : HS := (hz S, hL S, kd S, fi S, fl S, fr S, an S, ai S, up2 (al S) a i v, ar S)
def sar (S : HS) (a i : Nat) (v : Option Nat) : HS := (hz S, hL S, kd S, fi S, fl S, fr S, an S, ai S, al S, up2 (ar S) a i v)
/-- a new object of kind K at q, all its fields 0 and null -/
def zr {α : Type} (f : Nat → Nat → α) (q : Nat) (z : α) : Nat → Nat → α := fun k a => if a = q then z else f k a
def newQ (S : HS) (q K : Nat) : HS := (hz S + 1, hL S ++ [q], va_up (kd S) q K, zr (fi S) q 0, zr (fl S) q 0, zr (fr S) q none, an S, ai S, al S, ar S)
/-- a new array of kind K and length n at q -/
abbrev newO (S : HS) (K : Nat) : HS := newQ S (hz S) K
def newB (S : HS) (q K n : Nat) : HS := (hz S + 1, hL S ++ [q], va_up (kd S) q K, fi S, fl S, fr S, va_up (an S) q n, va_up (ai S) q (fun _ => 0), va_up (al S) q (fun _ => 0), va_up (ar S) q (fun _ => none))
abbrev newA (S : HS) (K n : Nat) : HS := newB S (hz S) K n
def fv (S : HS) (a : Nat) (t : Nat × Nat) : Value := match t.1 with
  | 0 => .int (fi S t.2 a)
  | 1 => .long (fl S t.2 a)
  | 2 => va_rf (fr S t.2 a)
  | _ => .null
def eC (AC : Nat → ClassId) (S : HS) (a : Nat) : va_E := match aK (kd S a) with
  | 0 => .inr (kd S a - 1, (lay (kd S a)).map (fv S a))
  | 1 => .inl (AC (kd S a), an S a, .inl (ai S a))
  | 2 => .inl (AC (kd S a), an S a, .inr (.inl (al S a)))
  | _ => .inl (AC (kd S a), an S a, .inr (.inr (.inr (.inr (ar S a)))))
abbrev pool (AC : Nat → ClassId) (S : HS) : va_W := va_pl (hL S) (eC AC S)
def hOk (S : HS) : Prop := (∀ a, kd S a ≠ 0 → a ∈ hL S) ∧ (∀ k a b, kd S a = rO k → fr S k a = some b → kd S b = rT k) ∧ (∀ a j b, aE (kd S a) ≠ 0 → ar S a j = some b → kd S b = aE (kd S a))
def Wd (D : va_G) (AC : Nat → ClassId) (A : Nat → Prop) (s : State) (H0 H : Heap) (locs : List Loc) (S : HS) : Prop :=
  va_K D vwCl (aTys AC) s ∧ va_P D vwCl (pool AC S) H ∧ va_D A (pool AC S) ∧ va_S A H0 H locs ∧ (∀ q, H0.size ≤ q → A q) ∧ hOk S ∧ H.size = hz S
/-- kinds and lengths stay -/
def mono (S S' : HS) : Prop := ∀ a, kd S a ≠ 0 → kd S' a = kd S a ∧ an S' a = an S a
theorem mono.rf (S : HS) : mono S S := fun _ _ => ⟨rfl, rfl⟩
theorem mono.tr {S S' S'' : HS} (h : mono S S') (h' : mono S' S'') : mono S S'' := fun a ha => by
  obtain ⟨h1, h2⟩ := h a ha
  obtain ⟨h3, h4⟩ := h' a (by rw [h1]; exact ha)
  exact ⟨h3.trans h1, h4.trans h2⟩
theorem mono.k {S S' : HS} (h : mono S S') {a K : Nat} (hk : kd S a = K) (hK : K ≠ 0) : kd S' a = K := (h a (by rw [hk]; exact hK)).1.trans hk
theorem mono.n {S S' : HS} (h : mono S S') {a K n : Nat} (hk : kd S a = K) (hK : K ≠ 0) (hn : an S a = n) : an S' a = n := (h a (by rw [hk]; exact hK)).2.trans hn
def AS (L : List Nat) (sz : Nat) : Nat → Prop := fun q => q ∈ L ∨ sz ≤ q
theorem pl_mem {L : List Nat} {f : Nat → va_E} {k : Nat} {q : Nat × va_E} (h : (va_pl L f)[k]? = some q) : q.1 ∈ L ∧ q.2 = f q.1 := by
  simp only [va_pl, List.getElem?_map] at h
  cases hb : L[k]? with
  | none => rw [hb] at h; cases h
  | some b =>
    rw [hb] at h
    have h2 := Option.some.inj h
    subst h2
    exact ⟨List.mem_of_getElem? hb, rfl⟩
theorem eC_obj {AC : Nat → ClassId} {S : HS} {a K : Nat} (hk : kd S a = K) (hK : aK K = 0) : eC AC S a = .inr (K - 1, (lay K).map (fv S a)) := by simp only [eC, hk, hK]
theorem eC_ints {AC : Nat → ClassId} {S : HS} {a K : Nat} (hk : kd S a = K) (hK : aK K = 1) : eC AC S a = .inl (AC K, an S a, .inl (ai S a)) := by simp only [eC, hk, hK]
theorem eC_longs {AC : Nat → ClassId} {S : HS} {a K : Nat} (hk : kd S a = K) (hK : aK K = 2) : eC AC S a = .inl (AC K, an S a, .inr (.inl (al S a))) := by simp only [eC, hk, hK]
theorem eC_refs {AC : Nat → ClassId} {S : HS} {a K : Nat} (hk : kd S a = K) (hK : aK K = 3) : eC AC S a = .inl (AC K, an S a, .inr (.inr (.inr (.inr (ar S a))))) := by simp only [eC, hk, hK]
/-- a store behind a write: equal but at one address -/
theorem eC_up {AC : Nat → ClassId} {S S' : HS} {a : Nat} {x : va_E} (h : ∀ b, b ≠ a → eC AC S' b = eC AC S b) (ha : eC AC S' a = x) : va_up (eC AC S) a x = eC AC S' := by
  funext b
  by_cases hb : b = a
  · subst hb; rw [va_up_self, ha]
  · rw [va_up_ne _ _ hb, h b hb]
theorem lay_set {S S' : HS} {a j : Nat} {t : Nat × Nat} {v : Value} (l : List (Nat × Nat)) (hn : l.Nodup) (hj : l[j]? = some t) (hv : fv S' a t = v) (ho : ∀ u, u ≠ t → fv S' a u = fv S a u) : l.map (fv S' a) = (l.map (fv S a)).set j v := by
  have hl : j < l.length := (List.getElem?_eq_some_iff.mp hj).1
  apply List.ext_getElem?
  intro i
  by_cases hi : i = j
  · subst hi
    rw [List.getElem?_set_self (by rw [List.length_map]; exact hl), List.getElem?_map, hj]
    show some (fv S' a t) = some v
    rw [hv]
  · rw [List.getElem?_set_ne (Ne.symm hi), List.getElem?_map, List.getElem?_map]
    cases hb : l[i]? with
    | none => rfl
    | some u =>
      have hu : u ≠ t := by
        intro h
        subst h
        have hil : i < l.length := (List.getElem?_eq_some_iff.mp hb).1
        exact hi ((List.getElem?_inj hil hn).mp (hb.trans hj.symm))
      show some (fv S' a u) = some (fv S a u)
      rw [ho u hu]
theorem eC_same {AC : Nat → ClassId} {S S' : HS} {b : Nat} (h1 : kd S' b = kd S b) (h2 : an S' b = an S b) (h3 : ai S' b = ai S b) (h4 : al S' b = al S b) (h5 : ar S' b = ar S b) (h6 : fv S' b = fv S b) : eC AC S' b = eC AC S b := by
  unfold eC
  rw [h1, h2, h3, h4, h5, h6]
theorem fv_b_sfi (S : HS) (k a : Nat) (v : Int32) {b : Nat} (hb : b ≠ a) : fv (sfi S k a v) b = fv S b := by
  funext t
  obtain ⟨t1, t2⟩ := t
  match t1 with
  | 0 => show Value.int (up2 (fi S) k a v t2 b) = _; rw [up2_a _ _ _ _ hb]; rfl
  | 1 => rfl
  | 2 => rfl
  | n + 3 => rfl
theorem fv_b_sfl (S : HS) (k a : Nat) (v : Int64) {b : Nat} (hb : b ≠ a) : fv (sfl S k a v) b = fv S b := by
  funext t
  obtain ⟨t1, t2⟩ := t
  match t1 with
  | 0 => rfl
  | 1 => show Value.long (up2 (fl S) k a v t2 b) = _; rw [up2_a _ _ _ _ hb]; rfl
  | 2 => rfl
  | n + 3 => rfl
theorem fv_b_sfr (S : HS) (k a : Nat) (v : Option Nat) {b : Nat} (hb : b ≠ a) : fv (sfr S k a v) b = fv S b := by
  funext t
  obtain ⟨t1, t2⟩ := t
  match t1 with
  | 0 => rfl
  | 1 => rfl
  | 2 => show va_rf (up2 (fr S) k a v t2 b) = _; rw [up2_a _ _ _ _ hb]; rfl
  | n + 3 => rfl
theorem fv_o_sfi (S : HS) (k a : Nat) (v : Int32) (t : Nat × Nat) (h : t ≠ (0, k)) : fv (sfi S k a v) a t = fv S a t := by
  obtain ⟨t1, t2⟩ := t
  match t1, h with
  | 0, h => show Value.int (up2 (fi S) k a v t2 a) = _; rw [up2_k _ _ _ _ (fun q => h (by rw [q]))]; rfl
  | 1, _ => rfl
  | 2, _ => rfl
  | n + 3, _ => rfl
theorem fv_o_sfl (S : HS) (k a : Nat) (v : Int64) (t : Nat × Nat) (h : t ≠ (1, k)) : fv (sfl S k a v) a t = fv S a t := by
  obtain ⟨t1, t2⟩ := t
  match t1, h with
  | 0, _ => rfl
  | 1, h => show Value.long (up2 (fl S) k a v t2 a) = _; rw [up2_k _ _ _ _ (fun q => h (by rw [q]))]; rfl
  | 2, _ => rfl
  | n + 3, _ => rfl
theorem fv_o_sfr (S : HS) (k a : Nat) (v : Option Nat) (t : Nat × Nat) (h : t ≠ (2, k)) : fv (sfr S k a v) a t = fv S a t := by
  obtain ⟨t1, t2⟩ := t
  match t1, h with
  | 0, _ => rfl
  | 1, _ => rfl
  | 2, h => show va_rf (up2 (fr S) k a v t2 a) = _; rw [up2_k _ _ _ _ (fun q => h (by rw [q]))]; rfl
  | n + 3, _ => rfl
theorem eC_sfi {AC : Nat → ClassId} {S : HS} {k a K j : Nat} (v : Int32) (hk : kd S a = K) (hK : aK K = 0) (hn : (lay K).Nodup) (hj : (lay K)[j]? = some (0, k)) : va_up (eC AC S) a (.inr (K - 1, ((lay K).map (fv S a)).set j (.int v))) = eC AC (sfi S k a v) := by
  refine eC_up (fun b hb => eC_same rfl rfl rfl rfl rfl (fv_b_sfi S k a v hb)) ?_
  rw [eC_obj (S := sfi S k a v) (show kd (sfi S k a v) a = K from hk) hK]
  rw [lay_set (S := S) (S' := sfi S k a v) (lay K) hn hj (v := .int v) (show Value.int (up2 (fi S) k a v k a) = _ by rw [up2_self]) (fun u hu => fv_o_sfi S k a v u hu)]
theorem eC_sfl {AC : Nat → ClassId} {S : HS} {k a K j : Nat} (v : Int64) (hk : kd S a = K) (hK : aK K = 0) (hn : (lay K).Nodup) (hj : (lay K)[j]? = some (1, k)) : va_up (eC AC S) a (.inr (K - 1, ((lay K).map (fv S a)).set j (.long v))) = eC AC (sfl S k a v) := by
  refine eC_up (fun b hb => eC_same rfl rfl rfl rfl rfl (fv_b_sfl S k a v hb)) ?_
  rw [eC_obj (S := sfl S k a v) (show kd (sfl S k a v) a = K from hk) hK]
  rw [lay_set (S := S) (S' := sfl S k a v) (lay K) hn hj (v := .long v) (show Value.long (up2 (fl S) k a v k a) = _ by rw [up2_self]) (fun u hu => fv_o_sfl S k a v u hu)]
theorem eC_sfr {AC : Nat → ClassId} {S : HS} {k a K j : Nat} (v : Option Nat) (hk : kd S a = K) (hK : aK K = 0) (hn : (lay K).Nodup) (hj : (lay K)[j]? = some (2, k)) : va_up (eC AC S) a (.inr (K - 1, ((lay K).map (fv S a)).set j (va_rf v))) = eC AC (sfr S k a v) := by
  refine eC_up (fun b hb => eC_same rfl rfl rfl rfl rfl (fv_b_sfr S k a v hb)) ?_
  rw [eC_obj (S := sfr S k a v) (show kd (sfr S k a v) a = K from hk) hK]
  rw [lay_set (S := S) (S' := sfr S k a v) (lay K) hn hj (v := va_rf v) (show va_rf (up2 (fr S) k a v k a) = _ by rw [up2_self]) (fun u hu => fv_o_sfr S k a v u hu)]
theorem up2_row {α : Type} (f : Nat → Nat → α) (a i : Nat) (v : α) : up2 f a i v a = va_up (f a) i v := by
  funext j
  simp [up2, va_up]
theorem up2_row' {α : Type} (f : Nat → Nat → α) {a b : Nat} (i : Nat) (v : α) (h : b ≠ a) : up2 f a i v b = f b := by
  funext j
  simp [up2, h]
theorem eC_sai {AC : Nat → ClassId} {S : HS} {a i K : Nat} (v : Int32) (hk : kd S a = K) (hK : aK K = 1) : va_up (eC AC S) a (.inl (AC K, an S a, .inl (upd (ai S a) i v))) = eC AC (sai S a i v) := by
  refine eC_up (fun b hb => eC_same rfl rfl (up2_row' _ _ _ hb) rfl rfl rfl) ?_
  rw [eC_ints (S := sai S a i v) (show kd (sai S a i v) a = K from hk) hK]
  show Sum.inl (AC K, an S a, Sum.inl (up2 (ai S) a i v a)) = _
  rw [up2_row]
  rfl
theorem eC_sal {AC : Nat → ClassId} {S : HS} {a i K : Nat} (v : Int64) (hk : kd S a = K) (hK : aK K = 2) : va_up (eC AC S) a (.inl (AC K, an S a, .inr (.inl (vp_updL (al S a) i v)))) = eC AC (sal S a i v) := by
  refine eC_up (fun b hb => eC_same rfl rfl rfl (up2_row' _ _ _ hb) rfl rfl) ?_
  rw [eC_longs (S := sal S a i v) (show kd (sal S a i v) a = K from hk) hK]
  show Sum.inl (AC K, an S a, Sum.inr (Sum.inl (up2 (al S) a i v a))) = _
  rw [up2_row]
  rfl
theorem eC_sar {AC : Nat → ClassId} {S : HS} {a i K : Nat} (v : Option Nat) (hk : kd S a = K) (hK : aK K = 3) : va_up (eC AC S) a (.inl (AC K, an S a, .inr (.inr (.inr (.inr (va_up (ar S a) i v)))))) = eC AC (sar S a i v) := by
  refine eC_up (fun b hb => eC_same rfl rfl rfl rfl (up2_row' _ _ _ hb) rfl) ?_
  rw [eC_refs (S := sar S a i v) (show kd (sar S a i v) a = K from hk) hK]
  show Sum.inl (AC K, an S a, Sum.inr (Sum.inr (Sum.inr (Sum.inr (up2 (ar S) a i v a))))) = _
  rw [up2_row]
-- the store's own order through each write
theorem hOk.sfi {S : HS} (h : hOk S) (k a : Nat) (v : Int32) : hOk (sfi S k a v) := h
theorem hOk.sfl {S : HS} (h : hOk S) (k a : Nat) (v : Int64) : hOk (sfl S k a v) := h
theorem hOk.sai {S : HS} (h : hOk S) (a i : Nat) (v : Int32) : hOk (sai S a i v) := h
theorem hOk.sal {S : HS} (h : hOk S) (a i : Nat) (v : Int64) : hOk (sal S a i v) := h
theorem hOk.sfr {S : HS} (h : hOk S) (k a : Nat) (v : Option Nat) (hv : ∀ b, v = some b → kd S b = rT k) : hOk (sfr S k a v) := by
  refine ⟨h.1, fun k' a' b ha hb => ?_, h.2.2⟩
  have hb' : up2 (fr S) k a v k' a' = some b := hb
  show kd S b = rT k'
  by_cases hc : k' = k ∧ a' = a
  · obtain ⟨rfl, rfl⟩ := hc
    rw [up2_self] at hb'
    exact hv b hb'
  · simp only [up2, hc, if_false] at hb'
    exact h.2.1 k' a' b ha hb'
theorem hOk.sar {S : HS} (h : hOk S) (a i : Nat) (v : Option Nat) (hv : ∀ b, v = some b → kd S b = aE (kd S a)) : hOk (sar S a i v) := by
  refine ⟨h.1, h.2.1, fun a' j b ha hb => ?_⟩
  have hb' : up2 (ar S) a i v a' j = some b := hb
  show kd S b = aE (kd S a')
  by_cases hc : a' = a ∧ j = i
  · obtain ⟨rfl, rfl⟩ := hc
    rw [up2_self] at hb'
    exact hv b hb'
  · simp only [up2, hc, if_false] at hb'
    exact h.2.2 a' j b ha hb'
theorem hOk.newQ {S : HS} (h : hOk S) {q K : Nat} (hq : q ∉ hL S) (hK : aE K = 0) (hO : ∀ k, rO k ≠ 0) (hT : ∀ k, rT k ≠ 0) (hE0 : aE 0 = 0) : hOk (newQ S q K) := by
  have k0 : kd S q = 0 := Classical.byContradiction fun z => hq (h.1 q z)
  have old : ∀ b, kd S b ≠ 0 → va_up (kd S) q K b = kd S b := fun b hb => va_up_ne _ _ (fun z => hb (by rw [z]; exact k0))
  refine ⟨fun a ha => ?_, fun k a b ha hb => ?_, fun a j b ha hb => ?_⟩
  · have ha' : va_up (kd S) q K a ≠ 0 := ha
    show a ∈ hL S ++ [q]
    by_cases hc : a = q
    · subst hc; exact List.mem_append_right _ List.mem_cons_self
    · rw [va_up_ne _ _ hc] at ha'
      exact List.mem_append_left _ (h.1 a ha')
  · have ha' : va_up (kd S) q K a = rO k := ha
    have hb' : zr (fr S) q none k a = some b := hb
    show va_up (kd S) q K b = rT k
    by_cases hc : a = q
    · simp [zr, hc] at hb'
    · rw [va_up_ne _ _ hc] at ha'
      simp only [zr, hc, if_false] at hb'
      have := h.2.1 k a b ha' hb'
      rw [old b (by rw [this]; exact hT k)]
      exact this
  · have ha' : aE (va_up (kd S) q K a) ≠ 0 := ha
    have hb' : ar S a j = some b := hb
    show va_up (kd S) q K b = aE (va_up (kd S) q K a)
    by_cases hc : a = q
    · subst hc; rw [va_up_self] at ha'; exact absurd hK ha'
    · rw [va_up_ne _ _ hc] at ha' ⊢
      have := h.2.2 a j b ha' hb'
      rw [old b (by rw [this]; exact ha')]
      exact this
theorem hOk.newB {S : HS} (h : hOk S) {q K n : Nat} (hq : q ∉ hL S) (hK : ∀ k, rO k ≠ K) (hO : ∀ k, rO k ≠ 0) (hT : ∀ k, rT k ≠ 0) : hOk (newB S q K n) := by
  have k0 : kd S q = 0 := Classical.byContradiction fun z => hq (h.1 q z)
  have old : ∀ b, kd S b ≠ 0 → va_up (kd S) q K b = kd S b := fun b hb => va_up_ne _ _ (fun z => hb (by rw [z]; exact k0))
  refine ⟨fun a ha => ?_, fun k a b ha hb => ?_, fun a j b ha hb => ?_⟩
  · have ha' : va_up (kd S) q K a ≠ 0 := ha
    show a ∈ hL S ++ [q]
    by_cases hc : a = q
    · subst hc; exact List.mem_append_right _ List.mem_cons_self
    · rw [va_up_ne _ _ hc] at ha'
      exact List.mem_append_left _ (h.1 a ha')
  · have ha' : va_up (kd S) q K a = rO k := ha
    have hb' : fr S k a = some b := hb
    show va_up (kd S) q K b = rT k
    by_cases hc : a = q
    · subst hc; rw [va_up_self] at ha'; exact absurd ha'.symm (hK k)
    · rw [va_up_ne _ _ hc] at ha'
      have := h.2.1 k a b ha' hb'
      rw [old b (by rw [this]; exact hT k)]
      exact this
  · have ha' : aE (va_up (kd S) q K a) ≠ 0 := ha
    have hb' : va_up (ar S) q (fun _ => none) a j = some b := hb
    show va_up (kd S) q K b = aE (va_up (kd S) q K a)
    by_cases hc : a = q
    · subst hc; rw [va_up_self] at hb'; cases hb'
    · rw [va_up_ne _ _ hc] at ha' ⊢ hb'
      have := h.2.2 a j b ha' hb'
      rw [old b (by rw [this]; exact ha')]
      exact this
theorem eC_newQ {AC : Nat → ClassId} {S : HS} {q K : Nat} (hq : q ∉ hL S) (hK : aK K = 0) : va_pl (hL S) (eC AC S) ++ [(q, .inr (K - 1, (lay K).map (fv (newQ S q K) q)))] = pool AC (newQ S q K) := by
  rw [va_pl_push hq]
  show va_pl (hL S ++ [q]) _ = va_pl (hL S ++ [q]) _
  congr 1
  refine eC_up (fun b hb => eC_same (va_up_ne _ _ hb) rfl rfl rfl rfl ?_) ?_
  · funext t
    obtain ⟨t1, t2⟩ := t
    match t1 with
    | 0 => show Value.int (zr (fi S) q 0 t2 b) = _; simp only [zr, hb, if_false]; rfl
    | 1 => show Value.long (zr (fl S) q 0 t2 b) = _; simp only [zr, hb, if_false]; rfl
    | 2 => show va_rf (zr (fr S) q none t2 b) = _; simp only [zr, hb, if_false]; rfl
    | n + 3 => rfl
  · exact eC_obj (show va_up (kd S) q K q = K from va_up_self _ _ _) hK
theorem fv_b_newB (S : HS) (q K n b : Nat) : fv (newB S q K n) b = fv S b := rfl
end
section
-- ROWS OVER THE STORE
section ROWS
variable {p : Program} {l : Launch} {e : Env} {R : Room} {s : State} {m : MethodId} {args : Array Value} {below : List Frame} {meth : Method} {c : Code} {H : Heap} {locs : List Loc} {cells slots : Nat} {Q : State → Prop}
variable {cc : ByteArray} {pc : Nat} {ls : Array Slot} {rest : List Value} {D : va_G} {AC : Nat → ClassId} {A : Nat → Prop} {H0 : Heap} {S : HS} {a K j k : Nat}
theorem Wd.in (hW : Wd D AC A s H0 H locs S) (hk : kd S a = K) (h0 : K ≠ 0) : ∃ q0 : Nat, (pool AC S)[q0]? = some (a, eC AC S a) :=
  va_pl_get (X := []) (f := eC AC S) (hW.2.2.2.2.2.1.1 a (by rw [hk]; exact h0))
theorem Wd.ok (hW : Wd D AC A s H0 H locs S) : hOk S := hW.2.2.2.2.2.1
theorem Wd.z (hW : Wd D AC A s H0 H locs S) : H.size = hz S := hW.2.2.2.2.2.2
theorem Wd.wK (hW : Wd D AC A s H0 H locs S) : va_K D vwCl (aTys AC) s := hW.1
theorem Wd.wP (hW : Wd D AC A s H0 H locs S) : va_P D vwCl (pool AC S) H := hW.2.1
theorem Wd.wD (hW : Wd D AC A s H0 H locs S) : va_D A (pool AC S) := hW.2.2.1
theorem Wd.wS (hW : Wd D AC A s H0 H locs S) : va_S A H0 H locs := hW.2.2.2.1
theorem Wd.wA (hW : Wd D AC A s H0 H locs S) : ∀ q, H0.size ≤ q → A q := hW.2.2.2.2.1
/-- what a field of a class is: its class, its place among the class's fields, its tag -/
def fdOk (own ref C : String) (T : u_T) (N index K j tag k : Nat) : Prop := (K ≠ 0 ∧ aK K = 0 ∧ vwCl[K - 1]? = some (C, T, N) ∧ j < N ∧ (lay K)[j]? = some (tag, k) ∧ (lay K).Nodup) ∧ (∀ w ∈ u_ws C T N, w ∈ wT) ∧ Cond.fieldLink own index ref (T j).2.1 (T j).2.2.1 ∈ wT ∧ ref = (T j).1
theorem g_i {own ref C : String} {T : u_T} {N index : Nat} (F : fdOk own ref C T N index K j 0 k) (hexec : p.tables.exec = Jvm.exec) (hb : c.code = cc) (hts : ∀ w ∈ wT, w.before args s = true) (hown : s.vm.findClass own = some m.cls) (hW : Wd D AC A s H0 H locs S) (hk : kd S a = K) (hdg : decode cc pc = .ok (.getfield index, 3))
    (kk : W p l e R s m args below meth c H locs cells slots Q (F0 m (pc + 3) ls (.int (fi S k a) :: rest))) : W p l e R s m args below meth c H locs cells slots Q (F0 m pc ls (.ref a :: rest)) := by
  obtain ⟨⟨h0, hK, hc, hj, hl, -⟩, hin, hlink, hrf⟩ := F
  obtain ⟨q0, hq⟩ := hW.in hk h0
  rw [eC_obj hk hK] at hq
  exact va_get hexec hb hts hin hown hW.wK hW.wP q0 hq hc j hj (hts _ hlink) (fun x h => by rw [hrf]; exact h) (v := .int (fi S k a)) (by rw [List.getElem?_map, hl]; rfl) hdg kk
theorem g_l {own ref C : String} {T : u_T} {N index : Nat} (F : fdOk own ref C T N index K j 1 k) (hexec : p.tables.exec = Jvm.exec) (hb : c.code = cc) (hts : ∀ w ∈ wT, w.before args s = true) (hown : s.vm.findClass own = some m.cls) (hW : Wd D AC A s H0 H locs S) (hk : kd S a = K) (hdg : decode cc pc = .ok (.getfield index, 3))
    (kk : W p l e R s m args below meth c H locs cells slots Q (F0 m (pc + 3) ls (.long (fl S k a) :: rest))) : W p l e R s m args below meth c H locs cells slots Q (F0 m pc ls (.ref a :: rest)) := by
  obtain ⟨⟨h0, hK, hc, hj, hl, -⟩, hin, hlink, hrf⟩ := F
  obtain ⟨q0, hq⟩ := hW.in hk h0
  rw [eC_obj hk hK] at hq
  exact va_get hexec hb hts hin hown hW.wK hW.wP q0 hq hc j hj (hts _ hlink) (fun x h => by rw [hrf]; exact h) (v := .long (fl S k a)) (by rw [List.getElem?_map, hl]; rfl) hdg kk
/-- a field of references: null, or an object of the field's own kind -/
theorem g_r {own ref C : String} {T : u_T} {N index : Nat} (F : fdOk own ref C T N index K j 2 k) (hO : rO k = K) (hexec : p.tables.exec = Jvm.exec) (hb : c.code = cc) (hts : ∀ w ∈ wT, w.before args s = true) (hown : s.vm.findClass own = some m.cls) (hW : Wd D AC A s H0 H locs S) (hk : kd S a = K) (hdg : decode cc pc = .ok (.getfield index, 3))
    (kn : fr S k a = none → W p l e R s m args below meth c H locs cells slots Q (F0 m (pc + 3) ls (.null :: rest))) (ks : ∀ b, fr S k a = some b → kd S b = rT k → W p l e R s m args below meth c H locs cells slots Q (F0 m (pc + 3) ls (.ref b :: rest))) : W p l e R s m args below meth c H locs cells slots Q (F0 m pc ls (.ref a :: rest)) := by
  obtain ⟨⟨h0, hK, hc, hj, hl, -⟩, hin, hlink, hrf⟩ := F
  obtain ⟨q0, hq⟩ := hW.in hk h0
  rw [eC_obj hk hK] at hq
  refine va_get hexec hb hts hin hown hW.wK hW.wP q0 hq hc j hj (hts _ hlink) (fun x h => by rw [hrf]; exact h) (v := va_rf (fr S k a)) (by rw [List.getElem?_map, hl]; rfl) hdg ?_
  cases hf : fr S k a with
  | none => exact kn hf
  | some b => exact ks b hf (hW.ok.2.1 k a b (by rw [hk, hO]) hf)
theorem g_q {own ref C : String} {T : u_T} {N index : Nat} (F : fdOk own ref C T N index K j 2 k) (hexec : p.tables.exec = Jvm.exec) (hb : c.code = cc) (hts : ∀ w ∈ wT, w.before args s = true) (hown : s.vm.findClass own = some m.cls) (hW : Wd D AC A s H0 H locs S) (hk : kd S a = K) (hdg : decode cc pc = .ok (.getfield index, 3))
    (kk : W p l e R s m args below meth c H locs cells slots Q (F0 m (pc + 3) ls (va_rf (fr S k a) :: rest))) : W p l e R s m args below meth c H locs cells slots Q (F0 m pc ls (.ref a :: rest)) := by
  obtain ⟨⟨h0, hK, hc, hj, hl, -⟩, hin, hlink, hrf⟩ := F
  obtain ⟨q0, hq⟩ := hW.in hk h0
  rw [eC_obj hk hK] at hq
  exact va_get hexec hb hts hin hown hW.wK hW.wP q0 hq hc j hj (hts _ hlink) (fun x h => by rw [hrf]; exact h) (v := va_rf (fr S k a)) (by rw [List.getElem?_map, hl]; rfl) hdg kk
/-- a write at one address: the store behind it -/
theorem Wd.put (hW : Wd D AC A s H0 H locs S) {q0 i0 : Nat} {x : va_E} {S' : HS} {H1 : Heap} (hq : (pool AC S)[q0]? = some (a, eC AC S a)) (ha : a ∈ hL S) (hL' : hL S' = hL S) (hz' : hz S' = hz S) (he : va_up (eC AC S) a x = eC AC S') (hk : hOk S')
    (h1 : va_at D vwCl (a, x) H1) (h2 : H1.size = H.size) (h3 : ∀ q : Nat, q ≠ a → H1[q]? = H[q]?) : Wd D AC A s H0 H1 (locs ++ [⟨a, i0⟩]) S' := by
  have p1 := hW.wP.set hW.wD hq h1 h3
  have p2 := hW.wD.set (e := x) hq
  have e : (pool AC S).set q0 (a, x) = pool AC S' := by
    have := va_pl_set (X := []) (e := x) hW.wD ha hq
    rw [show (pool AC S).set q0 (a, x) = ([] ++ va_pl (hL S) (eC AC S)).set q0 (a, x) from rfl, this, he]
    show va_pl (hL S) (eC AC S') = va_pl (hL S') (eC AC S')
    rw [hL']
  rw [e] at p1 p2
  exact ⟨hW.wK, p1, p2, hW.wS.put h2 h3 (hW.wD.2 q0 _ hq), hW.wA, hk, by rw [h2, hz']; exact hW.z⟩
/-- what a field is that may be written -/
def fdPut (T : u_T) (N j : Nat) (ty : FieldType) (fin : Bool) : Prop := (T j).2.2.2 = fin ∧ parseFieldDescriptor (T j).2.2.1 = some ty ∧ (∃ ty0 : Nat → FieldType, ∀ k, k < N → parseFieldDescriptor (T k).2.2.1 = some (ty0 k)) ∧ (∀ a, a < N → ∀ b, b < N → a ≠ b → (T a).2.1 ≠ (T b).2.1)
/-- a field's own write: of a final one in its constructor -/
theorem p_v {own ref C : String} {T : u_T} {N index tag : Nat} {ty : FieldType} {fin : Bool} {v : Value} {S' : HS} (F : fdOk own ref C T N index K j tag k) (G : fdPut T N j ty fin) (hinit : fin = true → meth.name = "<init>" ∧ (T j).1 = own) (hexec : p.tables.exec = Jvm.exec) (hb : c.code = cc) (hts : ∀ w ∈ wT, w.before args s = true) (hown : s.vm.findClass own = some m.cls) (hW : Wd D AC A s H0 H locs S) (hk : kd S a = K) (hn : narrow ty v = v) (hfit : fits ty v = true)
    (hL' : hL S' = hL S) (hz' : hz S' = hz S) (he : va_up (eC AC S) a (.inr (K - 1, ((lay K).map (fv S a)).set j v)) = eC AC S') (hok : hOk S') (hdg : decode cc pc = .ok (.putfield index, 3))
    (kk : ∀ (H1 : Heap) (locs1 : List Loc), Wd D AC A s H0 H1 locs1 S' → W p l e R s m args below meth c H1 locs1 cells slots Q (F0 m (pc + 3) ls rest)) : W p l e R s m args below meth c H locs cells slots Q (F0 m pc ls (v :: .ref a :: rest)) := by
  obtain ⟨⟨h0, hK, hc, hj, hl, hnd⟩, hin, hlink, hrf⟩ := F
  obtain ⟨hfin, hd, ⟨ty0, hty⟩, hnm⟩ := G
  obtain ⟨q0, hq0⟩ := hW.in hk h0
  have ha := hW.ok.1 a (by rw [hk]; exact h0)
  have hq := hq0
  rw [eC_obj hk hK] at hq
  have hlen : j < ((lay K).map (fv S a)).length := by rw [List.length_map]; exact (List.getElem?_eq_some_iff.mp hl).1
  have hap := va_apart (own := own) hts hin ty0 hty hnm hW.wK hc
  obtain ⟨r, e1, cell, q1, q2, q3, q4⟩ := hW.wP q0 _ hq
  obtain rfl : r = (C, T, N) := Option.some.inj (e1.symm.trans hc)
  obtain ⟨hSl, hfc, kC, hkC, hkind⟩ := hW.wK.1 (K - 1) _ hc
  obtain ⟨cf, kf, fx, f, hi, hsl⟩ := hSl j hj
  have hst := (u_facts hfc hkC (u_lays hts hin hj) hi).1
  have hlay := hts _ (hin _ (u_in_lay hj))
  unfold u_lay at hlay
  subst hrf
  have hat : ∀ {H1 : Heap}, H1[a]? = some (cell.setSlot f.slot v) → va_at D vwCl (a, .inr (K - 1, ((lay K).map (fv S a)).set j v)) H1 := by
    intro H1 g1
    rw [hsl] at g1
    exact ⟨_, hc, t_OB.to (V := updV (vp_V ((lay K).map (fv S a))) j v) ⟨_, g1, q2, q3, t_set q4 hap hj v⟩ (fun i _ => vp_updV_set hlen v i)⟩
  cases hf : fin with
  | false =>
    rw [if_neg (by rw [hfin, hf]; decide)] at hlay
    have h6 := u_store hfc hkC hkind hlay hi hd hn hfit
    exact W.putK hexec hb (f := f) ⟨hown, hts _ hlink, ⟨_, _, _, hi⟩, hst⟩ (by rw [q2]; exact h6) q1 q3 (by rw [hsl]; exact k2_hasslot (q4 j hj)) rfl rfl hdg (fun H' g1 g2 g3 => kk H' _ (hW.put hq0 ha hL' hz' he hok (hat g1) g2 g3))
  | true =>
    rw [if_pos (by rw [hfin, hf])] at hlay
    obtain ⟨hi2, hdc⟩ := hinit hf
    have hcf : m.cls = cf := by
      obtain ⟨_, _, c', _, _, _, -, -, hf', -, -, -, hown2, -⟩ := Cond.laysFinal_spec hlay
      have e1 : c' = cf := by have := hi.symm.trans hf'; simp at this; exact this.1.symm
      rw [hdc] at hown2
      rw [← e1]; exact Option.some.inj (hown.symm.trans hown2)
    have h6 := u_fits hfc hkC hkind (Or.inr hlay) hi hd hn hfit
    exact W.putFinK hexec hb hown (hts _ hlink) hi hst hcf hi2 (by rw [q2]; exact h6) q1 q3 (by rw [hsl]; exact k2_hasslot (q4 j hj)) rfl rfl hdg (fun H' g1 g2 g3 => kk H' _ (hW.put hq0 ha hL' hz' he hok (hat g1) g2 g3))
theorem p_i {own ref C : String} {T : u_T} {N index : Nat} {ty : FieldType} {fin : Bool} {v : Int32} (F : fdOk own ref C T N index K j 0 k) (G : fdPut T N j ty fin) (hinit : fin = true → meth.name = "<init>" ∧ (T j).1 = own) (hexec : p.tables.exec = Jvm.exec) (hb : c.code = cc) (hts : ∀ w ∈ wT, w.before args s = true) (hown : s.vm.findClass own = some m.cls) (hW : Wd D AC A s H0 H locs S) (hk : kd S a = K) (hn : narrow ty (.int v) = .int v) (hfit : fits ty (.int v) = true) (hdg : decode cc pc = .ok (.putfield index, 3))
    (kk : ∀ (H1 : Heap) (locs1 : List Loc), Wd D AC A s H0 H1 locs1 (sfi S k a v) → W p l e R s m args below meth c H1 locs1 cells slots Q (F0 m (pc + 3) ls rest)) : W p l e R s m args below meth c H locs cells slots Q (F0 m pc ls (.int v :: .ref a :: rest)) :=
  p_v (S' := sfi S k a v) F G hinit hexec hb hts hown hW hk hn hfit rfl rfl (eC_sfi v hk F.1.2.1 F.1.2.2.2.2.2 F.1.2.2.2.2.1) (hW.ok.sfi k a v) hdg kk
theorem p_l {own ref C : String} {T : u_T} {N index : Nat} {fin : Bool} {v : Int64} (F : fdOk own ref C T N index K j 1 k) (G : fdPut T N j .long fin) (hinit : fin = true → meth.name = "<init>" ∧ (T j).1 = own) (hexec : p.tables.exec = Jvm.exec) (hb : c.code = cc) (hts : ∀ w ∈ wT, w.before args s = true) (hown : s.vm.findClass own = some m.cls) (hW : Wd D AC A s H0 H locs S) (hk : kd S a = K) (hdg : decode cc pc = .ok (.putfield index, 3))
    (kk : ∀ (H1 : Heap) (locs1 : List Loc), Wd D AC A s H0 H1 locs1 (sfl S k a v) → W p l e R s m args below meth c H1 locs1 cells slots Q (F0 m (pc + 3) ls rest)) : W p l e R s m args below meth c H locs cells slots Q (F0 m pc ls (.long v :: .ref a :: rest)) :=
  p_v (S' := sfl S k a v) F G hinit hexec hb hts hown hW hk rfl rfl rfl rfl (eC_sfl v hk F.1.2.1 F.1.2.2.2.2.2 F.1.2.2.2.2.1) (hW.ok.sfl k a v) hdg kk
theorem p_r {own ref C : String} {T : u_T} {N index : Nat} {ty : FieldType} {fin : Bool} {b : Nat} (F : fdOk own ref C T N index K j 2 k) (G : fdPut T N j ty fin) (hty : narrow ty (.ref b) = .ref b ∧ fits ty (.ref b) = true) (hinit : fin = true → meth.name = "<init>" ∧ (T j).1 = own) (hexec : p.tables.exec = Jvm.exec) (hb : c.code = cc) (hts : ∀ w ∈ wT, w.before args s = true) (hown : s.vm.findClass own = some m.cls) (hW : Wd D AC A s H0 H locs S) (hk : kd S a = K) (hkb : kd S b = rT k) (hdg : decode cc pc = .ok (.putfield index, 3))
    (kk : ∀ (H1 : Heap) (locs1 : List Loc), Wd D AC A s H0 H1 locs1 (sfr S k a (some b)) → W p l e R s m args below meth c H1 locs1 cells slots Q (F0 m (pc + 3) ls rest)) : W p l e R s m args below meth c H locs cells slots Q (F0 m pc ls (.ref b :: .ref a :: rest)) :=
  p_v (S' := sfr S k a (some b)) F G hinit hexec hb hts hown hW hk hty.1 hty.2 rfl rfl (eC_sfr (some b) hk F.1.2.1 F.1.2.2.2.2.2 F.1.2.2.2.2.1) (hW.ok.sfr k a (some b) (fun x h => by cases h; exact hkb)) hdg kk
theorem p_n {own ref C : String} {T : u_T} {N index : Nat} {ty : FieldType} {fin : Bool} (F : fdOk own ref C T N index K j 2 k) (G : fdPut T N j ty fin) (hty : narrow ty .null = .null ∧ fits ty .null = true) (hinit : fin = true → meth.name = "<init>" ∧ (T j).1 = own) (hexec : p.tables.exec = Jvm.exec) (hb : c.code = cc) (hts : ∀ w ∈ wT, w.before args s = true) (hown : s.vm.findClass own = some m.cls) (hW : Wd D AC A s H0 H locs S) (hk : kd S a = K) (hdg : decode cc pc = .ok (.putfield index, 3))
    (kk : ∀ (H1 : Heap) (locs1 : List Loc), Wd D AC A s H0 H1 locs1 (sfr S k a none) → W p l e R s m args below meth c H1 locs1 cells slots Q (F0 m (pc + 3) ls rest)) : W p l e R s m args below meth c H locs cells slots Q (F0 m pc ls (.null :: .ref a :: rest)) :=
  p_v (S' := sfr S k a none) F G hinit hexec hb hts hown hW hk hty.1 hty.2 rfl rfl (eC_sfr none hk F.1.2.1 F.1.2.2.2.2.2 F.1.2.2.2.2.1) (hW.ok.sfr k a none (fun x h => by cases h)) hdg kk
theorem p_q {own ref C : String} {T : u_T} {N index : Nat} {ty : FieldType} {fin : Bool} {o : Option Nat} (F : fdOk own ref C T N index K j 2 k) (G : fdPut T N j ty fin) (hty : (∀ b, narrow ty (.ref b) = .ref b) ∧ (∀ b, fits ty (.ref b) = true) ∧ narrow ty .null = .null ∧ fits ty .null = true) (hinit : fin = true → meth.name = "<init>" ∧ (T j).1 = own) (hexec : p.tables.exec = Jvm.exec) (hb : c.code = cc) (hts : ∀ w ∈ wT, w.before args s = true) (hown : s.vm.findClass own = some m.cls) (hW : Wd D AC A s H0 H locs S) (hk : kd S a = K) (hkb : ∀ b, o = some b → kd S b = rT k) (hdg : decode cc pc = .ok (.putfield index, 3))
    (kk : ∀ (H1 : Heap) (locs1 : List Loc), Wd D AC A s H0 H1 locs1 (sfr S k a o) → W p l e R s m args below meth c H1 locs1 cells slots Q (F0 m (pc + 3) ls rest)) : W p l e R s m args below meth c H locs cells slots Q (F0 m pc ls (va_rf o :: .ref a :: rest)) := by
  cases o with
  | none => exact p_n F G hty.2.2 hinit hexec hb hts hown hW hk hdg kk
  | some b => exact p_r F G ⟨hty.1 b, hty.2.1 b⟩ hinit hexec hb hts hown hW hk (hkb b rfl) hdg kk
-- arrays: t0 the place of the kind in aTys
theorem a_il {t0 : Nat} {i : Int32} (hK : K ≠ 0 ∧ aK K = 1) (ht : (aTys AC)[t0]? = some (AC K, .int)) (hexec : p.tables.exec = Jvm.exec) (hb : c.code = cc) (hW : Wd D AC A s H0 H locs S) (hk : kd S a = K) (hin : vp_in i (an S a)) (hdg : decode cc pc = .ok (.iaload, 1))
    (kk : W p l e R s m args below meth c H locs cells slots Q (F0 m (pc + 1) ls (.int (ai S a i.toNatClampNeg) :: rest))) : W p l e R s m args below meth c H locs cells slots Q (F0 m pc ls (.int i :: .ref a :: rest)) := by
  obtain ⟨q0, hq⟩ := hW.in hk hK.1
  rw [eC_ints hk hK.2] at hq
  exact va_iald hexec hb hW.wK hW.wP q0 t0 hq ht hin hdg kk
theorem a_zl {t0 : Nat} {i : Int32} (hK : K ≠ 0 ∧ aK K = 1) (ht : (aTys AC)[t0]? = some (AC K, .boolean)) (hexec : p.tables.exec = Jvm.exec) (hb : c.code = cc) (hW : Wd D AC A s H0 H locs S) (hk : kd S a = K) (hin : vp_in i (an S a)) (hdg : decode cc pc = .ok (.baload, 1))
    (kk : W p l e R s m args below meth c H locs cells slots Q (F0 m (pc + 1) ls (.int (ai S a i.toNatClampNeg) :: rest))) : W p l e R s m args below meth c H locs cells slots Q (F0 m pc ls (.int i :: .ref a :: rest)) := by
  obtain ⟨q0, hq⟩ := hW.in hk hK.1
  rw [eC_ints hk hK.2] at hq
  exact va_zald hexec hb hW.wK hW.wP q0 t0 hq ht hin hdg kk
theorem a_ll {t0 : Nat} {i : Int32} (hK : K ≠ 0 ∧ aK K = 2) (ht : (aTys AC)[t0]? = some (AC K, .long)) (hexec : p.tables.exec = Jvm.exec) (hb : c.code = cc) (hW : Wd D AC A s H0 H locs S) (hk : kd S a = K) (hin : vp_in i (an S a)) (hdg : decode cc pc = .ok (.laload, 1))
    (kk : W p l e R s m args below meth c H locs cells slots Q (F0 m (pc + 1) ls (.long (al S a i.toNatClampNeg) :: rest))) : W p l e R s m args below meth c H locs cells slots Q (F0 m pc ls (.int i :: .ref a :: rest)) := by
  obtain ⟨q0, hq⟩ := hW.in hk hK.1
  rw [eC_longs hk hK.2] at hq
  exact va_lald hexec hb hW.wK hW.wP q0 t0 hq ht hin hdg kk
theorem a_rl {t0 : Nat} {C : String} {i : Int32} (hK : K ≠ 0 ∧ aK K = 3 ∧ aE K ≠ 0) (ht : (aTys AC)[t0]? = some (AC K, .object C)) (hexec : p.tables.exec = Jvm.exec) (hb : c.code = cc) (hW : Wd D AC A s H0 H locs S) (hk : kd S a = K) (hin : vp_in i (an S a)) (hdg : decode cc pc = .ok (.aaload, 1))
    (kn : ar S a i.toNatClampNeg = none → W p l e R s m args below meth c H locs cells slots Q (F0 m (pc + 1) ls (.null :: rest))) (ks : ∀ b, ar S a i.toNatClampNeg = some b → kd S b = aE K → W p l e R s m args below meth c H locs cells slots Q (F0 m (pc + 1) ls (.ref b :: rest))) : W p l e R s m args below meth c H locs cells slots Q (F0 m pc ls (.int i :: .ref a :: rest)) := by
  obtain ⟨q0, hq⟩ := hW.in hk hK.1
  rw [eC_refs hk hK.2.1] at hq
  refine va_aldq hexec hb hW.wK hW.wP q0 t0 hq ht hin hdg ?_
  cases hf : ar S a i.toNatClampNeg with
  | none => exact kn hf
  | some b => exact ks b hf (by have := hW.ok.2.2 a _ b (by rw [hk]; exact hK.2.2) hf; rw [hk] at this; exact this)
theorem a_q {t0 : Nat} {C : String} {i : Int32} (hK : K ≠ 0 ∧ aK K = 3 ∧ aE K ≠ 0) (ht : (aTys AC)[t0]? = some (AC K, .object C)) (hexec : p.tables.exec = Jvm.exec) (hb : c.code = cc) (hW : Wd D AC A s H0 H locs S) (hk : kd S a = K) (hin : vp_in i (an S a)) (hdg : decode cc pc = .ok (.aaload, 1))
    (kk : W p l e R s m args below meth c H locs cells slots Q (F0 m (pc + 1) ls (va_rf (ar S a i.toNatClampNeg) :: rest))) : W p l e R s m args below meth c H locs cells slots Q (F0 m pc ls (.int i :: .ref a :: rest)) := by
  obtain ⟨q0, hq⟩ := hW.in hk hK.1
  rw [eC_refs hk hK.2.1] at hq
  exact va_aldq hexec hb hW.wK hW.wP q0 t0 hq ht hin hdg kk
theorem a_len {t0 : Nat} {ty : FieldType} (hK : K ≠ 0 ∧ aK K ≠ 0) (ht : (aTys AC)[t0]? = some (AC K, ty)) (hexec : p.tables.exec = Jvm.exec) (hb : c.code = cc) (hW : Wd D AC A s H0 H locs S) (hk : kd S a = K) (hdg : decode cc pc = .ok (.arraylength, 1))
    (kk : W p l e R s m args below meth c H locs cells slots Q (F0 m (pc + 1) ls (.int (nI (an S a)) :: rest))) : W p l e R s m args below meth c H locs cells slots Q (F0 m pc ls (.ref a :: rest)) := by
  obtain ⟨q0, hq⟩ := hW.in hk hK.1
  have : ∃ x : vp_A, eC AC S a = .inl (AC K, x) ∧ x.1 = an S a := by
    match hc : aK K with
    | 0 => exact absurd hc hK.2
    | 1 => exact ⟨_, eC_ints hk hc, rfl⟩
    | 2 => exact ⟨_, eC_longs hk hc, rfl⟩
    | n + 3 => exact ⟨(an S a, .inr (.inr (.inr (.inr (ar S a))))), by simp only [eC, hk, hc], rfl⟩
  obtain ⟨x, hx, hn⟩ := this
  rw [hx] at hq
  exact va_alen hexec hb hW.wK hW.wP q0 t0 hq ht (by rw [hn]; rfl) hdg kk
theorem Wd.arr (hW : Wd D AC A s H0 H locs S) (hk : kd S a = K) (h0 : K ≠ 0) {x : ClassId × vp_A} (hx : eC AC S a = .inl x) : H[a]? = some (vp_cell x.1 x.2) := by
  obtain ⟨q0, hq⟩ := hW.in hk h0
  rw [hx] at hq
  exact hW.wP q0 _ hq
theorem Wd.in_arr (hW : Wd D AC A s H0 H locs S) (hk : kd S a = K) (h0 : K ≠ 0) {x : va_E} {i0 : Nat} {S' : HS} {H1 : Heap} (hL' : hL S' = hL S) (hz' : hz S' = hz S) (he : va_up (eC AC S) a x = eC AC S') (hok : hOk S') (h1 : va_at D vwCl (a, x) H1) (h2 : H1.size = H.size) (h3 : ∀ q : Nat, q ≠ a → H1[q]? = H[q]?) : Wd D AC A s H0 H1 (locs ++ [⟨a, i0⟩]) S' := by
  obtain ⟨q0, hq⟩ := hW.in hk h0
  exact hW.put hq (hW.ok.1 a (by rw [hk]; exact h0)) hL' hz' he hok h1 h2 h3
theorem a_is {t0 : Nat} {i v : Int32} (hK : K ≠ 0 ∧ aK K = 1) (ht : (aTys AC)[t0]? = some (AC K, .int)) (hexec : p.tables.exec = Jvm.exec) (hb : c.code = cc) (hW : Wd D AC A s H0 H locs S) (hk : kd S a = K) (hin : vp_in i (an S a)) (hdg : decode cc pc = .ok (.iastore, 1))
    (kk : ∀ (H1 : Heap) (locs1 : List Loc), Wd D AC A s H0 H1 locs1 (sai S a i.toNatClampNeg v) → W p l e R s m args below meth c H1 locs1 cells slots Q (F0 m (pc + 1) ls rest)) : W p l e R s m args below meth c H locs cells slots Q (F0 m pc ls (.int v :: .int i :: .ref a :: rest)) := by
  refine W.iast hexec hb (hW.arr hk hK.1 (eC_ints hk hK.2)) ((hW.wK.2 t0 _ ht).1 (an S a) (fun j => .int (ai S a j))) (fun q => by cases q) (by show ¬ (i < 0 ∨ (arrV _ _ _).slots.size ≤ _); rw [arrV_size]; exact hin) rfl rfl hdg (fun H1 g1 g2 g3 => kk H1 _ (hW.in_arr hk hK.1 rfl rfl (eC_sai v hk hK.2) (hW.ok.sai _ _ _) ?_ g2 g3))
  show H1[a]? = some (vp_cell _ _)
  rw [g1, vp_cell_i, vp_cell_i, arrV_store]
  congr 2
  funext q
  by_cases hq : q = i.toNatClampNeg
  · subst hq; simp [updV, upd]
  · simp [updV, upd, hq]
theorem a_zs {t0 : Nat} {i v : Int32} (hK : K ≠ 0 ∧ aK K = 1) (ht : (aTys AC)[t0]? = some (AC K, .boolean)) (hexec : p.tables.exec = Jvm.exec) (hb : c.code = cc) (hW : Wd D AC A s H0 H locs S) (hk : kd S a = K) (hin : vp_in i (an S a)) (hv : v = 0 ∨ v = 1) (hdg : decode cc pc = .ok (.bastore, 1))
    (kk : ∀ (H1 : Heap) (locs1 : List Loc), Wd D AC A s H0 H1 locs1 (sai S a i.toNatClampNeg v) → W p l e R s m args below meth c H1 locs1 cells slots Q (F0 m (pc + 1) ls rest)) : W p l e R s m args below meth c H locs cells slots Q (F0 m pc ls (.int v :: .int i :: .ref a :: rest)) := by
  refine W.zast hexec hb (hW.arr hk hK.1 (eC_ints hk hK.2)) ((hW.wK.2 t0 _ ht).1 (an S a) (fun j => .int (ai S a j))) (fun q => by cases q) (by show ¬ (i < 0 ∨ (arrV _ _ _).slots.size ≤ _); rw [arrV_size]; exact hin) rfl rfl hdg (fun H1 g1 g2 g3 => kk H1 _ (hW.in_arr hk hK.1 rfl rfl (eC_sai v hk hK.2) (hW.ok.sai _ _ _) ?_ g2 g3))
  show H1[a]? = some (vp_cell _ _)
  have hv1 : narrow .boolean (.int v) = .int v := by rcases hv with rfl | rfl <;> rfl
  rw [g1, vp_cell_i, vp_cell_i, arrV_store]
  congr 2
  funext q
  by_cases hq : q = i.toNatClampNeg
  · subst hq; simp [updV, upd, hv1]
  · simp [updV, upd, hq]
theorem a_ls {t0 : Nat} {i : Int32} {v : Int64} (hK : K ≠ 0 ∧ aK K = 2) (ht : (aTys AC)[t0]? = some (AC K, .long)) (hexec : p.tables.exec = Jvm.exec) (hb : c.code = cc) (hW : Wd D AC A s H0 H locs S) (hk : kd S a = K) (hin : vp_in i (an S a)) (hdg : decode cc pc = .ok (.lastore, 1))
    (kk : ∀ (H1 : Heap) (locs1 : List Loc), Wd D AC A s H0 H1 locs1 (sal S a i.toNatClampNeg v) → W p l e R s m args below meth c H1 locs1 cells slots Q (F0 m (pc + 1) ls rest)) : W p l e R s m args below meth c H locs cells slots Q (F0 m pc ls (.long v :: .int i :: .ref a :: rest)) := by
  refine W.last hexec hb (hW.arr hk hK.1 (eC_longs hk hK.2)) ((hW.wK.2 t0 _ ht).1 (an S a) (fun j => .long (al S a j))) (fun q => by cases q) (by show ¬ (i < 0 ∨ (arrV _ _ _).slots.size ≤ _); rw [arrV_size]; exact hin) rfl rfl hdg (fun H1 g1 g2 g3 => kk H1 _ (hW.in_arr hk hK.1 rfl rfl (eC_sal v hk hK.2) (hW.ok.sal _ _ _) ?_ g2 g3))
  show H1[a]? = some (vp_cell _ _)
  rw [g1, vp_cell_l, vp_cell_l, arrV_store]
  congr 2
  funext q
  by_cases hq : q = i.toNatClampNeg
  · subst hq; simp [updV, vp_updL]
  · simp [updV, vp_updL, hq]
theorem a_rs {t0 b : Nat} {r : vw_C} {i : Int32} (hK : K ≠ 0 ∧ aK K = 3 ∧ aE K ≠ 0) (ht : (aTys AC)[t0]? = some (AC K, .object r.1)) (hE : aK (aE K) = 0 ∧ vwCl[aE K - 1]? = some r) (hexec : p.tables.exec = Jvm.exec) (hb : c.code = cc) (hW : Wd D AC A s H0 H locs S) (hk : kd S a = K) (hkb : kd S b = aE K) (hin : vp_in i (an S a)) (hdg : decode cc pc = .ok (.aastore, 1))
    (kk : ∀ (H1 : Heap) (locs1 : List Loc), Wd D AC A s H0 H1 locs1 (sar S a i.toNatClampNeg (some b)) → W p l e R s m args below meth c H1 locs1 cells slots Q (F0 m (pc + 1) ls rest)) : W p l e R s m args below meth c H locs cells slots Q (F0 m pc ls (.ref b :: .int i :: .ref a :: rest)) := by
  have hlt : i.toNatClampNeg < an S a := Nat.not_le.mp fun q => hin (Or.inr q)
  have h0 : ¬ i < 0 := fun q => hin (Or.inl q)
  obtain ⟨qb, hqb⟩ := hW.in hkb hK.2.2
  rw [eC_obj hkb hE.1] at hqb
  obtain ⟨r', hr', cellV, g1, g2, g3, -⟩ := hW.wP qb _ hqb
  have hcls := (hW.wK.1 (aE K - 1) r hE.2).2
  obtain ⟨kA, comp, k1, k2, k3, -⟩ := (hW.wK.2 t0 _ ht).2
  obtain rfl : comp = D.1 (aE K - 1) := Option.some.inj (k3.symm.trans hcls.1)
  obtain ⟨kC, hkC, -⟩ := hcls.2
  refine W.aast hexec hb (hW.arr hk hK.1 (eC_refs hk hK.2.1)) (fun q h => by cases h) (fun h => by cases h) k1 k2 rfl hkC ⟨h0, by show _ < (arrV _ _ _).slots.size; rw [arrV_size]; exact hlt⟩ g1 (fun q h => by rw [g3] at h; cases h) (by rw [g2]; exact hkC) (by rw [g2]; exact va_assign hcls) rfl rfl hdg (fun H1 e1 e2 e3 => kk H1 _ (hW.in_arr hk hK.1 rfl rfl (eC_sar (some b) hk hK.2.1) (hW.ok.sar _ _ _ (fun x h => by cases h; rw [hk]; exact hkb)) ?_ e2 e3))
  show H1[a]? = some (vp_cell _ _)
  rw [e1, vp_cell_q, vp_cell_q, arrV_store]
  congr 2
  funext q
  by_cases hq : q = i.toNatClampNeg
  · subst hq; simp [updV, va_up, va_rf]
  · simp [updV, va_up, hq]
theorem Wd.lt (hW : Wd D AC A s H0 H locs S) (ha : a ∈ hL S) : a < hz S := by
  have := va_pl_lt (X := []) hW.wP ha
  rw [hW.z] at this
  exact this
theorem Wd.fresh (hW : Wd D AC A s H0 H locs S) : hz S ∉ hL S := fun h => Nat.lt_irrefl _ (hW.lt h)
theorem Wd.grow (hW : Wd D AC A s H0 H locs S) {x : va_E} {S' : HS} {H1 : Heap} (e1 : va_at D vwCl (hz S, x) H1) (z1 : H1.size = hz S + 1) (o1 : ∀ q, q < hz S → H1[q]? = H[q]?) (he : pool AC S ++ [(hz S, x)] = pool AC S') (hok : hOk S') (hz' : hz S' = hz S + 1) : Wd D AC A s H0 H1 locs S' := by
  have hk : ∀ (k : Nat) (y : Nat × va_E), (pool AC S)[k]? = some y → H1[y.1]? = H[y.1]? := fun k y hy => o1 y.1 (by rw [← hW.z]; exact (hW.wP k y hy).lt)
  have h0 : H0.size ≤ hz S := by rw [← hW.z]; exact hW.wS.1
  have p1 : va_P D vwCl (pool AC S ++ [(hz S, x)]) H1 := (hW.wP.kept hk).app (fun k y hy => by
    have hz1 : k < 1 := (List.getElem?_eq_some_iff.mp hy).1
    rw [show k = 0 by omega] at hy
    cases hy
    exact e1)
  have p2 : va_D A (pool AC S ++ [(hz S, x)]) := hW.wD.push hW.wP hW.z.symm (hW.wA _ h0)
  rw [he] at p1 p2
  exact ⟨hW.wK, p1, p2, ⟨by omega, fun y h1 h2 => (o1 y (by omega)).trans (hW.wS.2.1 y h1 h2), hW.wS.2.2⟩, hW.wA, hok, by rw [z1, hz']⟩
theorem mono_newQ (hW : Wd D AC A s H0 H locs S) (K : Nat) : mono S (newO S K) := fun a ha => by
  have hne : a ≠ hz S := fun z => hW.fresh (z ▸ hW.ok.1 a ha)
  exact ⟨va_up_ne _ _ hne, rfl⟩
theorem mono_newB (hW : Wd D AC A s H0 H locs S) (K n : Nat) : mono S (newA S K n) := fun a ha => by
  have hne : a ≠ hz S := fun z => hW.fresh (z ▸ hW.ok.1 a ha)
  exact ⟨va_up_ne _ _ hne, va_up_ne _ _ hne⟩
theorem n_o {own C : String} {T : u_T} {N index : Nat} (hK : K ≠ 0 ∧ aK K = 0 ∧ aE K = 0 ∧ vwCl[K - 1]? = some (C, T, N)) (hT : ∃ ty : Nat → FieldType, (∀ k, k < N → parseFieldDescriptor (T k).2.2.1 = some (ty k)) ∧ ∀ S q, ∀ j, j < N → defaultValue (ty j) = vp_V ((lay K).map (fv (newQ S q K) q)) j) (hin : ∀ w ∈ u_ws C T N, w ∈ wT) (hl : Cond.classLink own index C ∈ wT ∧ Cond.instantiable C N ∈ wT ∧ Cond.initialized C ∈ wT)
    (hexec : p.tables.exec = Jvm.exec) (hb : c.code = cc) (hts : ∀ w ∈ wT, w.before args s = true) (hown : s.vm.findClass own = some m.cls) (hW : Wd D AC A s H0 H locs S) (hrm : cells + 1 ≤ R.cells ∧ slots + N ≤ R.slots) (hdg : decode cc pc = .ok (.new index, 3))
    (kk : ∀ (H1 : Heap), Wd D AC A s H0 H1 locs (newO S K) → mono S (newO S K) → kd (newO S K) (hz S) = K → W p l e R s m args below meth c H1 locs (cells + 1) (slots + N) Q (F0 m (pc + 3) ls (.ref (hz S) :: rest))) : W p l e R s m args below meth c H locs cells slots Q (F0 m pc ls rest) := by
  obtain ⟨ty, hty, hfs⟩ := hT
  have hKn := hW.wK.1 (K - 1) _ hK.2.2.2
  refine W.newcK hexec hb hown (hts _ hl.1) (hts _ hl.2.1) (hts _ hl.2.2) rfl hdg hrm.1 hrm.2 hKn.2.1 hW.z (fun H1 kC hkC e1 z1 o1 => ?_)
  refine kk H1 (hW.grow (x := .inr (K - 1, (lay K).map (fv (newQ S (hz S) K) (hz S)))) ⟨_, hK.2.2.2, (u_born ty hts hin hKn hkC e1 hty).to (hfs S (hz S))⟩ z1 o1 (eC_newQ hW.fresh hK.2.1) (hW.ok.newQ hW.fresh hK.2.2.1 rO_ne rT_ne rfl) rfl) (mono_newQ hW K) (va_up_self _ _ _)
theorem eC_newA {q n : Nat} {x : va_E} (hq : q ∉ hL S) (hx : eC AC (newB S q K n) q = x) : va_pl (hL S) (eC AC S) ++ [(q, x)] = pool AC (newB S q K n) := by
  rw [va_pl_push hq]
  show va_pl (hL S ++ [q]) _ = va_pl (hL S ++ [q]) _
  congr 1
  exact eC_up (fun b hb => eC_same (va_up_ne _ _ hb) (va_up_ne _ _ hb) (va_up_ne _ _ hb) (va_up_ne _ _ hb) (va_up_ne _ _ hb) rfl) hx
theorem n_i {t0 n : Nat} {x : Int32} {atype : ArrayType} {ty : FieldType} (hK : K ≠ 0 ∧ aK K = 1 ∧ ∀ k, rO k ≠ K) (ht : (aTys AC)[t0]? = some (AC K, ty)) (hty : newarray.typeOf atype = ty) (hpr : (∀ C, ty ≠ .object C) ∧ defaultValue ty = .int 0) (hin : Cond.arrayClass (newarray.typeOf atype) ∈ wT) (hexec : p.tables.exec = Jvm.exec) (hb : c.code = cc) (hts : ∀ w ∈ wT, w.before args s = true) (hW : Wd D AC A s H0 H locs S) (hx : x = nI n) (hn : n < 2 ^ 20 ∧ n * componentBytes ty ≤ 536870912) (hrm : cells + 1 ≤ R.cells ∧ slots + n ≤ R.slots) (hdg : decode cc pc = .ok (.newarray atype, 2))
    (kk : ∀ (H1 : Heap), Wd D AC A s H0 H1 locs (newA S K n) → mono S (newA S K n) → kd (newA S K n) (hz S) = K → W p l e R s m args below meth c H1 locs (cells + 1) (slots + n) Q (F0 m (pc + 2) ls (.ref (hz S) :: rest))) : W p l e R s m args below meth c H locs cells slots Q (F0 m pc ls (.int x :: rest)) := by
  subst hx
  subst hty
  refine va_newaK hexec hb (hts _ hin) rfl hdg rfl (nI_pos (by omega)) (nI_clamp (by omega)) hn.2 hrm.1 hrm.2 hW.z (fun H1 cA e1 z1 o1 hAr hNm => ?_)
  have e : cA = AC K := by
    have a1 := (hW.wK.2 t0 _ ht).2
    generalize newarray.typeOf atype = ty at a1 hNm hpr
    cases ty with
    | object C => exact absurd rfl (hpr.1 C)
    | _ => exact Option.some.inj (hNm.symm.trans a1)
  subst e
  refine kk H1 (hW.grow (x := .inl (AC K, n, .inl (fun _ => 0))) ?_ z1 o1 (eC_newA hW.fresh ?_) (hW.ok.newB hW.fresh hK.2.2 rO_ne rT_ne) rfl) (mono_newB hW K n) (va_up_self _ _ _)
  · show H1[hz S]? = some (vp_cell _ _)
    rw [e1, vp_cell_i, hpr.2]
  · rw [eC_ints (S := newB S (hz S) K n) (va_up_self _ _ _) hK.2.1]
    show Sum.inl (AC K, va_up (an S) (hz S) n (hz S), Sum.inl (va_up (ai S) (hz S) (fun _ => 0) (hz S))) = _
    rw [va_up_self, va_up_self]
theorem n_l {t0 n : Nat} {x : Int32} (hK : K ≠ 0 ∧ aK K = 2 ∧ ∀ k, rO k ≠ K) (ht : (aTys AC)[t0]? = some (AC K, .long)) (hin : Cond.arrayClass (newarray.typeOf .long) ∈ wT) (hexec : p.tables.exec = Jvm.exec) (hb : c.code = cc) (hts : ∀ w ∈ wT, w.before args s = true) (hW : Wd D AC A s H0 H locs S) (hx : x = nI n) (hn : n < 2 ^ 20) (hrm : cells + 1 ≤ R.cells ∧ slots + n ≤ R.slots) (hdg : decode cc pc = .ok (.newarray .long, 2))
    (kk : ∀ (H1 : Heap), Wd D AC A s H0 H1 locs (newA S K n) → mono S (newA S K n) → kd (newA S K n) (hz S) = K → W p l e R s m args below meth c H1 locs (cells + 1) (slots + n) Q (F0 m (pc + 2) ls (.ref (hz S) :: rest))) : W p l e R s m args below meth c H locs cells slots Q (F0 m pc ls (.int x :: rest)) := by
  subst hx
  refine va_newaK hexec hb (hts _ hin) rfl hdg rfl (nI_pos (by omega)) (nI_clamp (by omega)) (by show n * 8 ≤ _; omega) hrm.1 hrm.2 hW.z (fun H1 cA e1 z1 o1 hAr hNm => ?_)
  have e : cA = AC K := by
    have a1 := (hW.wK.2 t0 _ ht).2
    exact Option.some.inj (hNm.symm.trans a1)
  subst e
  refine kk H1 (hW.grow (x := .inl (AC K, n, .inr (.inl (fun _ => 0)))) ?_ z1 o1 (eC_newA hW.fresh ?_) (hW.ok.newB hW.fresh hK.2.2 rO_ne rT_ne) rfl) (mono_newB hW K n) (va_up_self _ _ _)
  · show H1[hz S]? = some (vp_cell _ _)
    rw [e1, vp_cell_l]
    rfl
  · rw [eC_longs (S := newB S (hz S) K n) (va_up_self _ _ _) hK.2.1]
    show Sum.inl (AC K, va_up (an S) (hz S) n (hz S), Sum.inr (Sum.inl (va_up (al S) (hz S) (fun _ => 0) (hz S)))) = _
    rw [va_up_self, va_up_self]
theorem n_r {t0 n index : Nat} {own C : String} {x : Int32} (hK : K ≠ 0 ∧ aK K = 3 ∧ ∀ k, rO k ≠ K) (ht : (aTys AC)[t0]? = some (AC K, .object C)) (hin : Cond.classLink own index C ∈ wT ∧ Cond.arrayOver (.object C) ∈ wT) (hexec : p.tables.exec = Jvm.exec) (hb : c.code = cc) (hts : ∀ w ∈ wT, w.before args s = true) (hown : s.vm.findClass own = some m.cls) (hW : Wd D AC A s H0 H locs S) (hx : x = nI n) (hn : n < 2 ^ 20) (hrm : cells + 1 ≤ R.cells ∧ slots + n ≤ R.slots) (hdg : decode cc pc = .ok (.anewarray index, 3))
    (kk : ∀ (H1 : Heap), Wd D AC A s H0 H1 locs (newA S K n) → mono S (newA S K n) → kd (newA S K n) (hz S) = K → W p l e R s m args below meth c H1 locs (cells + 1) (slots + n) Q (F0 m (pc + 3) ls (.ref (hz S) :: rest))) : W p l e R s m args below meth c H locs cells slots Q (F0 m pc ls (.int x :: rest)) := by
  subst hx
  have hc : (nI n).toNatClampNeg = n := nI_clamp (by omega)
  refine W.anew hexec hb hown (hts _ hin.1) (hts _ hin.2) rfl hdg rfl (nI_pos (by omega)) (by rw [hc]; omega) hrm.1 (by rw [hc]; exact hrm.2) (fun cA kA comp f1 f2 f3 f4 => ?_)
  rw [hc, hW.z]
  generalize hH1 : H.push ({ cls := cA, slots := Array.replicate n .null, vm := .none } : Cell) = H1
  have z1 : H1.size = hz S + 1 := by rw [← hH1, Array.size_push, hW.z]
  have e1 : H1[hz S]? = some (arrV cA n (fun _ => .null)) := by rw [← hH1, ← hW.z, Array.getElem?_push_size, ← arrV_new]
  have o1 : ∀ q : Nat, q < hz S → H1[q]? = H[q]? := fun q hq => by rw [← hH1, Array.getElem?_push, if_neg (by rw [hW.z]; exact Nat.ne_of_lt hq)]
  have e : cA = AC K := by
    obtain ⟨-, -, -, -, -, a1⟩ := (hW.wK.2 t0 _ ht).2
    exact Option.some.inj (f1.symm.trans a1)
  subst e
  refine kk H1 (hW.grow (x := .inl (AC K, n, .inr (.inr (.inr (.inr (fun _ => none)))))) ?_ z1 o1 (eC_newA hW.fresh ?_) (hW.ok.newB hW.fresh hK.2.2 rO_ne rT_ne) rfl) (mono_newB hW K n) (va_up_self _ _ _)
  · show H1[hz S]? = some (vp_cell _ _)
    rw [e1, vp_cell_q]
    rfl
  · rw [eC_refs (S := newB S (hz S) K n) (va_up_self _ _ _) hK.2.1]
    show Sum.inl (AC K, va_up (an S) (hz S) n (hz S), Sum.inr (Sum.inr (Sum.inr (Sum.inr (va_up (ar S) (hz S) (fun _ => none) (hz S)))))) = _
    rw [va_up_self, va_up_self]
end ROWS
end
section
-- CONTRACTS OVER THE STORE, ENDS, CALLS
def CPre (D : va_G) (AC : Nat → ClassId) (S : HS) (av : List Value) : Array Value → State → Prop := va_Pc av (fun U => U.heap.size = hz S ∧ va_K D vwCl (aTys AC) U ∧ va_P D vwCl (pool AC S) U.heap ∧ va_D (fun _ => True) (pool AC S) ∧ hOk S)
def CB (D : va_G) (AC : Nat → ClassId) (S : HS) (S' : HS) (t : State) : Prop := va_K D vwCl (aTys AC) t ∧ va_P D vwCl (pool AC S') t.heap ∧ va_D (AS (hL S) (hz S)) (pool AC S') ∧ hOk S' ∧ mono S S' ∧ t.heap.size = hz S'
abbrev rmOf (fr mc ms lo : Nat) : Room := { frames := fr, cells := mc, slots := ms, locals := lo }
def CtI (l : Launch) (y : MethodName) (ws : List Cond) (fr lo : Nat) (D : va_G) (AC : Nat → ClassId) (S : HS) (av : List Value) (mc ms : Nat) (post : Int32 → HS → Prop) : Prop := Met l y ws (rmOf fr mc ms lo) (CPre D AC S av) (va_Qi post (CB D AC S) (AS (hL S) (hz S))) mc ms (AS (hL S) (hz S))
def CtL (l : Launch) (y : MethodName) (ws : List Cond) (fr lo : Nat) (D : va_G) (AC : Nat → ClassId) (S : HS) (av : List Value) (mc ms : Nat) (post : Int64 → HS → Prop) : Prop := Met l y ws (rmOf fr mc ms lo) (CPre D AC S av) (va_Ql post (CB D AC S) (AS (hL S) (hz S))) mc ms (AS (hL S) (hz S))
def CtV (l : Launch) (y : MethodName) (ws : List Cond) (fr lo : Nat) (D : va_G) (AC : Nat → ClassId) (S : HS) (av : List Value) (mc ms : Nat) (post : HS → Prop) : Prop := Met l y ws (rmOf fr mc ms lo) (CPre D AC S av) (va_Qv post (CB D AC S) (AS (hL S) (hz S))) mc ms (AS (hL S) (hz S))
def CtQ (l : Launch) (y : MethodName) (ws : List Cond) (fr lo : Nat) (D : va_G) (AC : Nat → ClassId) (S : HS) (av : List Value) (mc ms : Nat) (post : Option Nat → HS → Prop) : Prop := Met l y ws (rmOf fr mc ms lo) (CPre D AC S av) (va_Qq post (CB D AC S) (AS (hL S) (hz S))) mc ms (AS (hL S) (hz S))
/-- where a body stands -/
def Cx (p : Program) (s : State) (m : MethodId) (args : Array Value) (meth : Method) (c : Code) (y : MethodName) (cc : ByteArray) (maxL : Nat) (ret : Option FieldType) : Prop := p.tables.exec = Jvm.exec ∧ c.code = cc ∧ c.maxLocals = maxL ∧ meth.sig.returnType = ret ∧ meth.locks = false ∧ s.vm.findClass y.cls = some m.cls ∧ meth.name = y.name ∧ ∀ w ∈ wT, w.before args s = true
theorem met_of {l : Launch} {y : MethodName} {cc : ByteArray} {maxL : Nat} {ret : Option FieldType} {fr lo mc ms : Nat} {D : va_G} {AC : Nat → ClassId} {S : HS} {av : List Value} {Qc : Array Value → State → Outcome → State → Prop} (hy : plainName y.cls = true) (hlen : (lg_sl av).length ≤ maxL)
    (body : ∀ (p : Program) (e : Env) (s : State) (m : MethodId) (below : List Frame) (meth : Method) (c : Code) (ls : Array Slot), s.heap.size = hz S → Cx p s m av.toArray meth c y cc maxL ret → Wd D AC (AS (hL S) s.heap.size) s s.heap s.heap [] S → lv_has ls maxL (lv_args 0 av) →
      W p l e (rmOf fr mc ms lo) s m av.toArray below meth c s.heap [] 0 0 (MQ below Qc av.toArray s mc ms (AS (hL S) (hz S))) (F0 m 0 ls [])) : Met l y (Cond.code y cc maxL ret :: wT) (rmOf fr mc ms lo) (CPre D AC S av) Qc mc ms (AS (hL S) (hz S)) := by
  refine Met.ofW (cc := cc) (maxL := maxL) (ret := ret) hy rfl ?_
  intro p e s m args below meth c s₁ B hml hv
  obtain ⟨rfl, hsz, hK, hP, hD, hok⟩ := hv
  have hts := atoms_spec (ws := Cond.code y cc maxL ret :: wT) B.pre
  have hl := lv_entry av (n := maxL) hlen
  rw [lg_entry_eq]
  exact body p e s m below meth c _ hsz ⟨B.exec, B.bytes, hml, B.returns, B.notSynchronized, findClass_of_methodNamed B.named, (name_of_methodNamed B.named B.method).1, fun w hw => hts w (List.mem_cons_of_mem _ hw)⟩
    ⟨hK, hP, ⟨hD.1, fun k q hk => Or.inl (pl_mem hk).1⟩, va_S.rf, fun q h => Or.inr h, hok, hsz⟩ hl
section ENDS
variable {p : Program} {l : Launch} {e : Env} {R : Room} {s : State} {m : MethodId} {args : Array Value} {below : List Frame} {meth : Method} {c : Code} {H : Heap} {locs : List Loc} {cells slots : Nat}
variable {cc : ByteArray} {pc mc ms : Nat} {ls : Array Slot} {D : va_G} {AC : Nat → ClassId} {S0 S : HS}
theorem e_i {post : Int32 → HS → Prop} {r : Int32} (hsz : s.heap.size = hz S0) (hexec : p.tables.exec = Jvm.exec) (hb : c.code = cc) (hr : meth.sig.returnType = some .int) (hlk : meth.locks = false) (hW : Wd D AC (AS (hL S0) s.heap.size) s s.heap H locs S) (hm : mono S0 S) (hc : cells ≤ mc) (hs : slots ≤ ms) (hdg : decode cc pc = .ok (.ireturn, 1)) (hp : post r S) : W p l e R s m args below meth c H locs cells slots (MQ below (va_Qi post (CB D AC S0) (AS (hL S0) (hz S0))) args s mc ms (AS (hL S0) (hz S0))) (F0 m pc ls [.int r]) := by
  rw [hsz] at hW
  refine W.widen hc hs ?_
  exact W.iret (v := r) hexec hb hr (fun t ht hWm => ⟨⟨r, S, rfl, hp, va_K.moved hWm.alike hW.wK, by rw [ht]; exact hW.wP, hW.wD, hW.ok, hm, by rw [ht]; exact hW.z⟩, hW.wS.F ht⟩) hW.wS.2.2 hdg hlk
theorem e_z {post : Int32 → HS → Prop} {r : Int32} (hsz : s.heap.size = hz S0) (hexec : p.tables.exec = Jvm.exec) (hb : c.code = cc) (hr : meth.sig.returnType = some .boolean) (hlk : meth.locks = false) (hW : Wd D AC (AS (hL S0) s.heap.size) s s.heap H locs S) (hm : mono S0 S) (hc : cells ≤ mc) (hs : slots ≤ ms) (hdg : decode cc pc = .ok (.ireturn, 1)) (hn : narrow .boolean (.int r) = .int r) (hp : post r S) : W p l e R s m args below meth c H locs cells slots (MQ below (va_Qi post (CB D AC S0) (AS (hL S0) (hz S0))) args s mc ms (AS (hL S0) (hz S0))) (F0 m pc ls [.int r]) := by
  rw [hsz] at hW
  refine W.widen hc hs ?_
  exact W.zret (v := r) hexec hb hr hn (fun t ht hWm => ⟨⟨r, S, rfl, hp, va_K.moved hWm.alike hW.wK, by rw [ht]; exact hW.wP, hW.wD, hW.ok, hm, by rw [ht]; exact hW.z⟩, hW.wS.F ht⟩) hW.wS.2.2 hdg hlk
theorem e_l {post : Int64 → HS → Prop} {r : Int64} (hsz : s.heap.size = hz S0) (hexec : p.tables.exec = Jvm.exec) (hb : c.code = cc) (hr : meth.sig.returnType = some .long) (hlk : meth.locks = false) (hW : Wd D AC (AS (hL S0) s.heap.size) s s.heap H locs S) (hm : mono S0 S) (hc : cells ≤ mc) (hs : slots ≤ ms) (hdg : decode cc pc = .ok (.lreturn, 1)) (hp : post r S) : W p l e R s m args below meth c H locs cells slots (MQ below (va_Ql post (CB D AC S0) (AS (hL S0) (hz S0))) args s mc ms (AS (hL S0) (hz S0))) (F0 m pc ls [.long r]) := by
  rw [hsz] at hW
  refine W.widen hc hs ?_
  exact W.lret (v := r) hexec hb hr (fun t ht hWm => ⟨⟨r, S, rfl, hp, va_K.moved hWm.alike hW.wK, by rw [ht]; exact hW.wP, hW.wD, hW.ok, hm, by rw [ht]; exact hW.z⟩, hW.wS.F ht⟩) hW.wS.2.2 hdg hlk
theorem e_v {post : HS → Prop} (hsz : s.heap.size = hz S0) (hexec : p.tables.exec = Jvm.exec) (hb : c.code = cc) (hr : meth.sig.returnType = none) (hlk : meth.locks = false) (hW : Wd D AC (AS (hL S0) s.heap.size) s s.heap H locs S) (hm : mono S0 S) (hc : cells ≤ mc) (hs : slots ≤ ms) (hdg : decode cc pc = .ok (.return_, 1)) (hp : post S) : W p l e R s m args below meth c H locs cells slots (MQ below (va_Qv post (CB D AC S0) (AS (hL S0) (hz S0))) args s mc ms (AS (hL S0) (hz S0))) (F0 m pc ls []) := by
  rw [hsz] at hW
  refine W.widen hc hs ?_
  exact W.vret hexec hb hr (fun t ht hWm => ⟨⟨S, rfl, hp, va_K.moved hWm.alike hW.wK, by rw [ht]; exact hW.wP, hW.wD, hW.ok, hm, by rw [ht]; exact hW.z⟩, hW.wS.F ht⟩) hW.wS.2.2 hdg hlk
theorem e_q {post : Option Nat → HS → Prop} {r : Option Nat} {C : String} (hsz : s.heap.size = hz S0) (hexec : p.tables.exec = Jvm.exec) (hb : c.code = cc) (hr : meth.sig.returnType = some (.object C)) (hlk : meth.locks = false) (hW : Wd D AC (AS (hL S0) s.heap.size) s s.heap H locs S) (hm : mono S0 S) (hc : cells ≤ mc) (hs : slots ≤ ms) (hdg : decode cc pc = .ok (.areturn, 1)) (hp : post r S) : W p l e R s m args below meth c H locs cells slots (MQ below (va_Qq post (CB D AC S0) (AS (hL S0) (hz S0))) args s mc ms (AS (hL S0) (hz S0))) (F0 m pc ls [va_rf r]) := by
  rw [hsz] at hW
  refine W.widen hc hs ?_
  exact W.aret (v := va_rf r) hexec hb hr (Or.inl ⟨_, rfl⟩) (va_rf_or r) (fun t ht hWm => ⟨⟨r, S, rfl, hp, va_K.moved hWm.alike hW.wK, by rw [ht]; exact hW.wP, hW.wD, hW.ok, hm, by rw [ht]; exact hW.z⟩, hW.wS.F ht⟩) hW.wS.2.2 hdg hlk
end ENDS
/-- the words of a call of an instance method, of a static one, of a constructor -/
def cV (own : String) (index : Nat) (C : String) (y : MethodName) (bytes : ByteArray) (maxL : Nat) (ret : Option FieldType) (n : Nat) : Prop := (Cond.methodLink own index y ∈ wT ∧ Cond.instanceMethod y ∈ wT ∧ Cond.selects C y y ∈ wT ∧ Cond.initialized C ∈ wT) ∧ Cond.code y bytes maxL ret ∈ wT ∧ (y.cls = C ∧ y.cls ≠ "java/lang/invoke/MethodHandle" ∧ y.cls ≠ "java/lang/invoke/VarHandle" ∧ (parseMethodDescriptor y.desc).map (fun d => d.parameters.length) = some n)
def cS (own : String) (index : Nat) (y : MethodName) (bytes : ByteArray) (maxL : Nat) (ret : Option FieldType) (n : Nat) : Prop := (Cond.methodLink own index y ∈ wT ∧ Cond.static y ∈ wT ∧ Cond.initialized own ∈ wT) ∧ Cond.code y bytes maxL ret ∈ wT ∧ (y.cls = own ∧ y.cls ≠ "java/lang/invoke/MethodHandle" ∧ y.cls ≠ "java/lang/invoke/VarHandle" ∧ (parseMethodDescriptor y.desc).map (fun d => d.parameters.length) = some n)
def cI (own : String) (index : Nat) (y : MethodName) (bytes : ByteArray) (maxL : Nat) (n : Nat) : Prop := (Cond.methodLink own index y ∈ wT ∧ Cond.instanceMethod y ∈ wT ∧ Cond.initialized y.cls ∈ wT ∧ y.name = "<init>") ∧ Cond.code y bytes maxL none ∈ wT ∧ (y.cls ≠ "java/lang/invoke/MethodHandle" ∧ y.cls ≠ "java/lang/invoke/VarHandle" ∧ (parseMethodDescriptor y.desc).map (fun d => d.parameters.length) = some n)
theorem wT_good : GoodIn wT wT := fun w hw => ⟨hw, good_of_word (List.mem_filter.mp hw).2⟩
theorem good_code {y : MethodName} {bytes : ByteArray} {maxL : Nat} {ret : Option FieldType} (h : Cond.code y bytes maxL ret ∈ wT) : GoodIn wT (Cond.code y bytes maxL ret :: wT) := fun w hw => by
  rcases List.mem_cons.mp hw with rfl | hw
  · exact wT_good _ h
  · exact wT_good w hw
theorem good_V {own C : String} {index n maxL : Nat} {y : MethodName} {bytes : ByteArray} {ret : Option FieldType} (h : cV own index C y bytes maxL ret n) : GoodIn wT (wsV own index C y (Cond.code y bytes maxL ret :: wT)) := fun w hw => by
  rcases List.mem_append.mp hw with hw | hw
  · simp only [List.mem_cons, List.not_mem_nil, or_false] at hw
    rcases hw with rfl | rfl | rfl | rfl
    · exact wT_good _ h.1.1
    · exact wT_good _ h.1.2.1
    · exact wT_good _ h.1.2.2.1
    · exact wT_good _ h.1.2.2.2
  · exact good_code h.2.1 w hw
theorem good_S {own : String} {index n maxL : Nat} {y : MethodName} {bytes : ByteArray} {ret : Option FieldType} (h : cS own index y bytes maxL ret n) : GoodIn wT (wsS own index y (Cond.code y bytes maxL ret :: wT)) := fun w hw => by
  rcases List.mem_append.mp hw with hw | hw
  · simp only [List.mem_cons, List.not_mem_nil, or_false] at hw
    rcases hw with rfl | rfl | rfl
    · exact wT_good _ h.1.1
    · exact wT_good _ h.1.2.1
    · exact wT_good _ h.1.2.2
  · exact good_code h.2.1 w hw
/-- what a call leaves of the heap beside the store: all else stays; the store's cells are its own or new -/
def Fr (S : HS) (H : Heap) (S' : HS) (H1 : Heap) : Prop := H.size ≤ H1.size ∧ (∀ q : Nat, q < H.size → ¬ AS (hL S) (hz S) q → H1[q]? = H[q]?) ∧ ∀ q ∈ hL S', AS (hL S) (hz S) q
section CALLS
variable {p : Program} {l : Launch} {e : Env} {R : Room} {s : State} {m : MethodId} {args : Array Value} {below : List Frame} {meth : Method} {c : Code} {H : Heap} {locs : List Loc} {cells slots : Nat} {Q : State → Prop}
variable {cc bytes : ByteArray} {pc maxL nL index n fr lo mc ms : Nat} {ls : Array Slot} {st rest As : List Value} {D : va_G} {AC : Nat → ClassId} {A : Nat → Prop} {H0 : Heap} {S : HS} {b K : Nat} {own C : String} {y : MethodName} {ret : Option FieldType}
theorem Wd.blind (av : List Value) : FrameBlind (CPre D AC S av) := fun a U g mk q => by
  obtain ⟨q0, q1, qK, qP, qD, qO⟩ := q
  exact ⟨q0, q1, va_K.moved (u := U) (U := U.calling g mk a) (Vm.Alike.refl U.vm) qK, qP, qD, qO⟩
theorem Wd.pre (hW : Wd D AC A s H0 H locs S) (av : List Value) : ∀ U : State, U.heap = H → s.WarmedH U.vm → CPre D AC S av av.toArray U := fun U hU hw =>
  ⟨rfl, by rw [hU]; exact hW.z, va_K.moved hw.alike hW.wK, by rw [hU]; exact hW.wP, hW.wD.weaken (fun _ _ _ _ => trivial), hW.ok⟩
theorem Wd.recv (hW : Wd D AC A s H0 H locs S) (hk : kd S b = K) (hK : K ≠ 0 ∧ aK K = 0 ∧ ∃ r : vw_C, vwCl[K - 1]? = some r ∧ r.1 = C) : ∃ cellB : Cell, H[b]? = some cellB ∧ cellB.vm.isStatics = false ∧ s.vm.findClass C = some cellB.cls := by
  obtain ⟨h0, h1, r, h2, h3⟩ := hK
  obtain ⟨q0, hq⟩ := hW.in hk h0
  rw [eC_obj hk h1] at hq
  subst h3
  exact va_recv hW.wK hW.wP h2 hq
theorem Wd.free (hW : Wd D AC A s H0 H locs S) : ∀ q, AS (hL S) (hz S) q → A q := fun q h => by
  rcases h with h | h
  · obtain ⟨k, hk⟩ := va_pl_get (X := []) (f := eC AC S) h
    exact hW.wD.2 k _ hk
  · exact hW.wA q (Nat.le_trans hW.wS.1 (by rw [hW.z]; exact h))
theorem Wd.back {S' : HS} {t : State} {H1 : Heap} {locs1 : List Loc} (hW : Wd D AC A s H0 H locs S) (ht : t.heap = H1) (hvm : s.vm.Alike t.vm) (hB : CB D AC S S' t) (hzz : H.size ≤ H1.size) (hk : ∀ q : Nat, q < H.size → ¬ AS (hL S) (hz S) q → H1[q]? = H[q]?) (hS : va_S A H0 H1 locs1) : Wd D AC A s H0 H1 locs1 S' ∧ mono S S' ∧ Fr S H S' H1 := by
  obtain ⟨h1, h2, h3, h4, h5, h6⟩ := hB
  refine ⟨⟨va_K.moved hvm.symm h1, by rw [← ht]; exact h2, ⟨h3.1, fun k q hq => hW.free _ (h3.2 k q hq)⟩, hS, hW.wA, h4, by rw [← ht]; exact h6⟩, h5, hzz, hk, fun q hq => ?_⟩
  obtain ⟨k, hk2⟩ := va_pl_get (X := []) (f := eC AC S') hq
  exact h3.2 k _ hk2
abbrev RmOk (R : Room) (cells slots fr lo maxL mc ms : Nat) : Prop := (fr + 1 ≤ R.frames ∧ 8 + (maxL + 11) + lo ≤ R.locals) ∧ (cells + mc ≤ R.cells ∧ slots + ms ≤ R.slots)
theorem k_Vi {post : Int32 → HS → Prop} (hC : CtI l y (Cond.code y bytes maxL ret :: wT) fr lo D AC S (.ref b :: As) mc ms post) (CV : cV own index C y bytes maxL ret n) (hK : K ≠ 0 ∧ aK K = 0 ∧ ∃ r : vw_C, vwCl[K - 1]? = some r ∧ r.1 = C) (hexec : p.tables.exec = Jvm.exec) (hb : c.code = cc) (hml : c.maxLocals = nL) (hown : s.vm.findClass own = some m.cls) (hts : ∀ w ∈ wT, w.before args s = true) (hW : Wd D AC A s H0 H locs S) (hk : kd S b = K) (hls : ls.size = nL) (hn : As.length = n) (hst : st = As.reverse ++ .ref b :: rest) (hw : (rest.map fun v => v.category).sum ≤ 8) (hrm : RmOk R cells slots fr lo maxL mc ms) (hdg : decode cc pc = .ok (.invokevirtual index, 3))
    (kk : ∀ (r : Int32) (S' : HS) (H1 : Heap) (locs1 : List Loc), post r S' → Wd D AC A s H0 H1 locs1 S' → mono S S' → Fr S H S' H1 → W p l e R s m args below meth c H1 locs1 (cells + mc) (slots + ms) Q (F0 m (pc + 3) ls (.int r :: rest))) : W p l e R s m args below meth c H locs cells slots Q (F0 m pc ls st) := by
  subst hst
  exact va_calli (va_runV (As := As) (rest := rest) ⟨hexec, hb, hml, hown, hts⟩ hC (cwV n hts (good_V CV) rfl rfl rfl CV.2.2 hrm.1) ⟨Wd.blind _, hW.recv hk hK, hW.pre _⟩ rfl hn hls rfl (lv_room hw) hdg hrm.2) hW.wS (fun q _ h => hW.free q h) hW.free (fun r S' t H1 locs1 ht hvm hp hB hz hk1 hS => by
    obtain ⟨z1, z2, z3⟩ := hW.back ht hvm hB hz hk1 hS
    exact kk r S' H1 locs1 hp z1 z2 z3)
theorem k_Vl {post : Int64 → HS → Prop} (hC : CtL l y (Cond.code y bytes maxL ret :: wT) fr lo D AC S (.ref b :: As) mc ms post) (CV : cV own index C y bytes maxL ret n) (hK : K ≠ 0 ∧ aK K = 0 ∧ ∃ r : vw_C, vwCl[K - 1]? = some r ∧ r.1 = C) (hexec : p.tables.exec = Jvm.exec) (hb : c.code = cc) (hml : c.maxLocals = nL) (hown : s.vm.findClass own = some m.cls) (hts : ∀ w ∈ wT, w.before args s = true) (hW : Wd D AC A s H0 H locs S) (hk : kd S b = K) (hls : ls.size = nL) (hn : As.length = n) (hst : st = As.reverse ++ .ref b :: rest) (hw : (rest.map fun v => v.category).sum ≤ 8) (hrm : RmOk R cells slots fr lo maxL mc ms) (hdg : decode cc pc = .ok (.invokevirtual index, 3))
    (kk : ∀ (r : Int64) (S' : HS) (H1 : Heap) (locs1 : List Loc), post r S' → Wd D AC A s H0 H1 locs1 S' → mono S S' → Fr S H S' H1 → W p l e R s m args below meth c H1 locs1 (cells + mc) (slots + ms) Q (F0 m (pc + 3) ls (.long r :: rest))) : W p l e R s m args below meth c H locs cells slots Q (F0 m pc ls st) := by
  subst hst
  exact va_calll (va_runV (As := As) (rest := rest) ⟨hexec, hb, hml, hown, hts⟩ hC (cwV n hts (good_V CV) rfl rfl rfl CV.2.2 hrm.1) ⟨Wd.blind _, hW.recv hk hK, hW.pre _⟩ rfl hn hls rfl (lv_room hw) hdg hrm.2) hW.wS (fun q _ h => hW.free q h) hW.free (fun r S' t H1 locs1 ht hvm hp hB hz hk1 hS => by
    obtain ⟨z1, z2, z3⟩ := hW.back ht hvm hB hz hk1 hS
    exact kk r S' H1 locs1 hp z1 z2 z3)
theorem k_Vv {post : HS → Prop} (hC : CtV l y (Cond.code y bytes maxL ret :: wT) fr lo D AC S (.ref b :: As) mc ms post) (CV : cV own index C y bytes maxL ret n) (hK : K ≠ 0 ∧ aK K = 0 ∧ ∃ r : vw_C, vwCl[K - 1]? = some r ∧ r.1 = C) (hexec : p.tables.exec = Jvm.exec) (hb : c.code = cc) (hml : c.maxLocals = nL) (hown : s.vm.findClass own = some m.cls) (hts : ∀ w ∈ wT, w.before args s = true) (hW : Wd D AC A s H0 H locs S) (hk : kd S b = K) (hls : ls.size = nL) (hn : As.length = n) (hst : st = As.reverse ++ .ref b :: rest) (hw : (rest.map fun v => v.category).sum ≤ 8) (hrm : RmOk R cells slots fr lo maxL mc ms) (hdg : decode cc pc = .ok (.invokevirtual index, 3))
    (kk : ∀ (S' : HS) (H1 : Heap) (locs1 : List Loc), post S' → Wd D AC A s H0 H1 locs1 S' → mono S S' → Fr S H S' H1 → W p l e R s m args below meth c H1 locs1 (cells + mc) (slots + ms) Q (F0 m (pc + 3) ls rest)) : W p l e R s m args below meth c H locs cells slots Q (F0 m pc ls st) := by
  subst hst
  exact va_callv (va_runV (As := As) (rest := rest) ⟨hexec, hb, hml, hown, hts⟩ hC (cwV n hts (good_V CV) rfl rfl rfl CV.2.2 hrm.1) ⟨Wd.blind _, hW.recv hk hK, hW.pre _⟩ rfl hn hls rfl (lv_room hw) hdg hrm.2) hW.wS (fun q _ h => hW.free q h) hW.free (fun S' t H1 locs1 ht hvm hp hB hz hk1 hS => by
    obtain ⟨z1, z2, z3⟩ := hW.back ht hvm hB hz hk1 hS
    exact kk S' H1 locs1 hp z1 z2 z3)
theorem k_Vq {post : Option Nat → HS → Prop} (hC : CtQ l y (Cond.code y bytes maxL ret :: wT) fr lo D AC S (.ref b :: As) mc ms post) (CV : cV own index C y bytes maxL ret n) (hK : K ≠ 0 ∧ aK K = 0 ∧ ∃ r : vw_C, vwCl[K - 1]? = some r ∧ r.1 = C) (hexec : p.tables.exec = Jvm.exec) (hb : c.code = cc) (hml : c.maxLocals = nL) (hown : s.vm.findClass own = some m.cls) (hts : ∀ w ∈ wT, w.before args s = true) (hW : Wd D AC A s H0 H locs S) (hk : kd S b = K) (hls : ls.size = nL) (hn : As.length = n) (hst : st = As.reverse ++ .ref b :: rest) (hw : (rest.map fun v => v.category).sum ≤ 8) (hrm : RmOk R cells slots fr lo maxL mc ms) (hdg : decode cc pc = .ok (.invokevirtual index, 3))
    (kk : ∀ (r : Option Nat) (S' : HS) (H1 : Heap) (locs1 : List Loc), post r S' → Wd D AC A s H0 H1 locs1 S' → mono S S' → Fr S H S' H1 → W p l e R s m args below meth c H1 locs1 (cells + mc) (slots + ms) Q (F0 m (pc + 3) ls (va_rf r :: rest))) : W p l e R s m args below meth c H locs cells slots Q (F0 m pc ls st) := by
  subst hst
  exact va_callq (va_runV (As := As) (rest := rest) ⟨hexec, hb, hml, hown, hts⟩ hC (cwV n hts (good_V CV) rfl rfl rfl CV.2.2 hrm.1) ⟨Wd.blind _, hW.recv hk hK, hW.pre _⟩ rfl hn hls rfl (lv_room hw) hdg hrm.2) hW.wS (fun q _ h => hW.free q h) hW.free (fun r S' t H1 locs1 ht hvm hp hB hz hk1 hS => by
    obtain ⟨z1, z2, z3⟩ := hW.back ht hvm hB hz hk1 hS
    exact kk r S' H1 locs1 hp z1 z2 z3)
theorem k_Si {post : Int32 → HS → Prop} (hC : CtI l y (Cond.code y bytes maxL ret :: wT) fr lo D AC S As mc ms post) (CV : cS own index y bytes maxL ret n) (hexec : p.tables.exec = Jvm.exec) (hb : c.code = cc) (hml : c.maxLocals = nL) (hown : s.vm.findClass own = some m.cls) (hts : ∀ w ∈ wT, w.before args s = true) (hW : Wd D AC A s H0 H locs S) (hls : ls.size = nL) (hn : As.length = n) (hst : st = As.reverse ++ rest) (hw : (rest.map fun v => v.category).sum ≤ 8) (hrm : RmOk R cells slots fr lo maxL mc ms) (hdg : decode cc pc = .ok (.invokestatic index, 3))
    (kk : ∀ (r : Int32) (S' : HS) (H1 : Heap) (locs1 : List Loc), post r S' → Wd D AC A s H0 H1 locs1 S' → mono S S' → Fr S H S' H1 → W p l e R s m args below meth c H1 locs1 (cells + mc) (slots + ms) Q (F0 m (pc + 3) ls (.int r :: rest))) : W p l e R s m args below meth c H locs cells slots Q (F0 m pc ls st) := by
  subst hst
  exact va_calli (va_runS (As := As) (rest := rest) ⟨hexec, hb, hml, hown, hts⟩ hC (cwS n hts (good_S CV) rfl rfl rfl CV.2.2 hrm.1) ⟨Wd.blind _, hW.pre _⟩ rfl hn hls rfl (lv_room hw) hdg hrm.2) hW.wS (fun q _ h => hW.free q h) hW.free (fun r S' t H1 locs1 ht hvm hp hB hz hk1 hS => by
    obtain ⟨z1, z2, z3⟩ := hW.back ht hvm hB hz hk1 hS
    exact kk r S' H1 locs1 hp z1 z2 z3)
theorem k_Iv {post : HS → Prop} (hC : CtV l y (Cond.code y bytes maxL none :: wT) fr lo D AC S (.ref b :: As) mc ms post) (CV : cI own index y bytes maxL n) (hexec : p.tables.exec = Jvm.exec) (hb : c.code = cc) (hml : c.maxLocals = nL) (hown : s.vm.findClass own = some m.cls) (hts : ∀ w ∈ wT, w.before args s = true) (hW : Wd D AC A s H0 H locs S) (hls : ls.size = nL) (hn : As.length = n) (hst : st = As.reverse ++ .ref b :: rest) (hw : (rest.map fun v => v.category).sum ≤ 8) (hrm : RmOk R cells slots fr lo maxL mc ms) (hdg : decode cc pc = .ok (.invokespecial index, 3))
    (kk : ∀ (S' : HS) (H1 : Heap) (locs1 : List Loc), post S' → Wd D AC A s H0 H1 locs1 S' → mono S S' → Fr S H S' H1 → W p l e R s m args below meth c H1 locs1 (cells + mc) (slots + ms) Q (F0 m (pc + 3) ls rest)) : W p l e R s m args below meth c H locs cells slots Q (F0 m pc ls st) := by
  subst hst
  exact va_callv (va_runI (As := As) (rest := rest) ⟨hexec, hb, hml, hown, hts⟩ hC (cwI n hts (good_code CV.2.1) rfl rfl rfl (hts _ CV.1.2.2.1) (hts _ CV.1.1) (hts _ CV.1.2.1) CV.1.2.2.2 CV.2.2 hrm.1) ⟨Wd.blind _, hW.pre _⟩ rfl hn hls rfl (lv_room hw) hdg hrm.2) hW.wS (fun q _ h => hW.free q h) hW.free (fun S' t H1 locs1 ht hvm hp hB hz hk1 hS => by
    obtain ⟨z1, z2, z3⟩ := hW.back ht hvm hB hz hk1 hS
    exact kk S' H1 locs1 hp z1 z2 z3)
end CALLS
end
